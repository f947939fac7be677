theorem dX11_many_97 : decode cX11_many 97 = .ok (.ishr, 1) := by decide +kernel
theorem dX11_many_98 : decode cX11_many 98 = .ok (.iconst 1, 1) := by decide +kernel
theorem dX11_many_99 : decode cX11_many 99 = .ok (.iand, 1) := by decide +kernel
theorem dX11_many_100 : decode cX11_many 100 = .ok (.iconst 1, 1) := by decide +kernel
theorem dX11_many_101 : decode cX11_many 101 = .ok (.if_icmp .ne 7, 3) := by decide +kernel
theorem dX11_many_104 : decode cX11_many 104 = .ok (.iconst 1, 1) := by decide +kernel
theorem dX11_many_105 : decode cX11_many 105 = .ok (.goto 4, 3) := by decide +kernel
theorem dX11_many_108 : decode cX11_many 108 = .ok (.iconst 0, 1) := by decide +kernel
theorem dX11_many_109 : decode cX11_many 109 = .ok (.istore 7, 2) := by decide +kernel
theorem dX11_many_111 : decode cX11_many 111 = .ok (.iload_n 1, 1) := by decide +kernel
theorem dX11_many_112 : decode cX11_many 112 = .ok (.bipush 20, 2) := by decide +kernel
theorem dX11_many_114 : decode cX11_many 114 = .ok (.ishr, 1) := by decide +kernel
theorem dX11_many_115 : decode cX11_many 115 = .ok (.iconst 1, 1) := by decide +kernel
theorem dX11_many_116 : decode cX11_many 116 = .ok (.iand, 1) := by decide +kernel
theorem dX11_many_117 : decode cX11_many 117 = .ok (.iconst 1, 1) := by decide +kernel
theorem dX11_many_118 : decode cX11_many 118 = .ok (.if_icmp .ne 7, 3) := by decide +kernel
theorem dX11_many_121 : decode cX11_many 121 = .ok (.iconst 1, 1) := by decide +kernel
theorem dX11_many_122 : decode cX11_many 122 = .ok (.goto 4, 3) := by decide +kernel
theorem dX11_many_125 : decode cX11_many 125 = .ok (.iconst 0, 1) := by decide +kernel
theorem dX11_many_126 : decode cX11_many 126 = .ok (.istore 8, 2) := by decide +kernel
theorem dX11_many_128 : decode cX11_many 128 = .ok (.iload_n 1, 1) := by decide +kernel
theorem dX11_many_129 : decode cX11_many 129 = .ok (.bipush 15, 2) := by decide +kernel
theorem dX11_many_131 : decode cX11_many 131 = .ok (.ishr, 1) := by decide +kernel
theorem dX11_many_132 : decode cX11_many 132 = .ok (.iconst 1, 1) := by decide +kernel
theorem dX11_many_133 : decode cX11_many 133 = .ok (.iand, 1) := by decide +kernel
theorem dX11_many_134 : decode cX11_many 134 = .ok (.iconst 1, 1) := by decide +kernel
theorem dX11_many_135 : decode cX11_many 135 = .ok (.if_icmp .ne 7, 3) := by decide +kernel
theorem dX11_many_138 : decode cX11_many 138 = .ok (.iconst 1, 1) := by decide +kernel
theorem dX11_many_139 : decode cX11_many 139 = .ok (.goto 4, 3) := by decide +kernel
theorem dX11_many_142 : decode cX11_many 142 = .ok (.iconst 0, 1) := by decide +kernel
theorem dX11_many_143 : decode cX11_many 143 = .ok (.istore 9, 2) := by decide +kernel
theorem dX11_many_145 : decode cX11_many 145 = .ok (.iload_n 1, 1) := by decide +kernel
theorem dX11_many_146 : decode cX11_many 146 = .ok (.bipush 16, 2) := by decide +kernel
theorem dX11_many_148 : decode cX11_many 148 = .ok (.ishr, 1) := by decide +kernel
theorem dX11_many_149 : decode cX11_many 149 = .ok (.bipush 15, 2) := by decide +kernel
theorem dX11_many_151 : decode cX11_many 151 = .ok (.iand, 1) := by decide +kernel
theorem dX11_many_152 : decode cX11_many 152 = .ok (.istore 10, 2) := by decide +kernel
theorem dX11_many_154 : decode cX11_many 154 = .ok (.aload_n 0, 1) := by decide +kernel
theorem dX11_many_155 : decode cX11_many 155 = .ok (.iload 10, 2) := by decide +kernel
theorem dX11_many_157 : decode cX11_many 157 = .ok (.invokevirtual 290, 3) := by decide +kernel
theorem dX11_many_160 : decode cX11_many 160 = .ok (.istore 11, 2) := by decide +kernel
theorem dX11_many_162 : decode cX11_many 162 = .ok (.iload 5, 2) := by decide +kernel
theorem dX11_many_164 : decode cX11_many 164 = .ok (.ifCond .eq 20, 3) := by decide +kernel
theorem dX11_many_167 : decode cX11_many 167 = .ok (.iload 4, 2) := by decide +kernel
theorem dX11_many_169 : decode cX11_many 169 = .ok (.ifCond .eq 10, 3) := by decide +kernel
theorem dX11_many_172 : decode cX11_many 172 = .ok (.iload 11, 2) := by decide +kernel
theorem dX11_many_174 : decode cX11_many 174 = .ok (.iconst 4, 1) := by decide +kernel
theorem dX11_many_175 : decode cX11_many 175 = .ok (.iadd, 1) := by decide +kernel
theorem dX11_many_176 : decode cX11_many 176 = .ok (.goto 30, 3) := by decide +kernel
theorem dX11_many_179 : decode cX11_many 179 = .ok (.iload 11, 2) := by decide +kernel
theorem dX11_many_181 : decode cX11_many 181 = .ok (.goto 25, 3) := by decide +kernel
theorem dX11_many_184 : decode cX11_many 184 = .ok (.iload 4, 2) := by decide +kernel
theorem dX11_many_186 : decode cX11_many 186 = .ok (.ifCond .eq 12, 3) := by decide +kernel
theorem dX11_many_189 : decode cX11_many 189 = .ok (.iload 11, 2) := by decide +kernel
theorem dX11_many_191 : decode cX11_many 191 = .ok (.iconst 4, 1) := by decide +kernel
theorem dX11_many_192 : decode cX11_many 192 = .ok (.iload_n 2, 1) := by decide +kernel
theorem dX11_many_193 : decode cX11_many 193 = .ok (.imul, 1) := by decide +kernel
theorem dX11_many_194 : decode cX11_many 194 = .ok (.isub, 1) := by decide +kernel
theorem dX11_many_195 : decode cX11_many 195 = .ok (.goto 11, 3) := by decide +kernel
theorem dX11_many_198 : decode cX11_many 198 = .ok (.iload 11, 2) := by decide +kernel
theorem dX11_many_200 : decode cX11_many 200 = .ok (.iconst 4, 1) := by decide +kernel
theorem dX11_many_201 : decode cX11_many 201 = .ok (.iload_n 2, 1) := by decide +kernel
theorem dX11_many_202 : decode cX11_many 202 = .ok (.imul, 1) := by decide +kernel
theorem dX11_many_203 : decode cX11_many 203 = .ok (.isub, 1) := by decide +kernel
theorem dX11_many_204 : decode cX11_many 204 = .ok (.iconst 4, 1) := by decide +kernel
theorem dX11_many_205 : decode cX11_many 205 = .ok (.iadd, 1) := by decide +kernel
theorem dX11_many_206 : decode cX11_many 206 = .ok (.istore 12, 2) := by decide +kernel
theorem dX11_many_208 : decode cX11_many 208 = .ok (.iload 12, 2) := by decide +kernel
theorem dX11_many_210 : decode cX11_many 210 = .ok (.bipush 26, 2) := by decide +kernel
theorem dX11_many_212 : decode cX11_many 212 = .ok (.iushr, 1) := by decide +kernel
theorem dX11_many_213 : decode cX11_many 213 = .ok (.ifCond .eq 14, 3) := by decide +kernel
theorem dX11_many_216 : decode cX11_many 216 = .ok (.aload_n 0, 1) := by decide +kernel
theorem dX11_many_217 : decode cX11_many 217 = .ok (.iconst 4, 1) := by decide +kernel
theorem dX11_many_218 : decode cX11_many 218 = .ok (.iconst 3, 1) := by decide +kernel
theorem dX11_many_219 : decode cX11_many 219 = .ok (.bipush 20, 2) := by decide +kernel
theorem dX11_many_221 : decode cX11_many 221 = .ok (.bipush 8, 2) := by decide +kernel
theorem dX11_many_223 : decode cX11_many 223 = .ok (.invokevirtual 238, 3) := by decide +kernel
theorem dX11_many_226 : decode cX11_many 226 = .ok (.ireturn, 1) := by decide +kernel
theorem dX11_many_227 : decode cX11_many 227 = .ok (.aload_n 0, 1) := by decide +kernel
theorem dX11_many_228 : decode cX11_many 228 = .ok (.invokevirtual 148, 3) := by decide +kernel
theorem dX11_many_231 : decode cX11_many 231 = .ok (.istore 13, 2) := by decide +kernel
theorem dX11_many_233 : decode cX11_many 233 = .ok (.iconst 0, 1) := by decide +kernel
theorem dX11_many_234 : decode cX11_many 234 = .ok (.istore 14, 2) := by decide +kernel
theorem dX11_many_236 : decode cX11_many 236 = .ok (.iload 14, 2) := by decide +kernel
theorem dX11_many_238 : decode cX11_many 238 = .ok (.iload_n 2, 1) := by decide +kernel
theorem dX11_many_239 : decode cX11_many 239 = .ok (.if_icmp .ge 66, 3) := by decide +kernel
theorem dX11_many_242 : decode cX11_many 242 = .ok (.iload 12, 2) := by decide +kernel
theorem dX11_many_244 : decode cX11_many 244 = .ok (.iconst 4, 1) := by decide +kernel
theorem dX11_many_245 : decode cX11_many 245 = .ok (.iload 14, 2) := by decide +kernel
theorem dX11_many_247 : decode cX11_many 247 = .ok (.imul, 1) := by decide +kernel
theorem dX11_many_248 : decode cX11_many 248 = .ok (.iadd, 1) := by decide +kernel
theorem dX11_many_249 : decode cX11_many 249 = .ok (.ldc 143, 2) := by decide +kernel
theorem dX11_many_251 : decode cX11_many 251 = .ok (.iand, 1) := by decide +kernel
theorem dX11_many_252 : decode cX11_many 252 = .ok (.istore 15, 2) := by decide +kernel
theorem dX11_many_254 : decode cX11_many 254 = .ok (.aload_n 0, 1) := by decide +kernel
theorem dX11_many_255 : decode cX11_many 255 = .ok (.iload 13, 2) := by decide +kernel
theorem dX11_many_257 : decode cX11_many 257 = .ok (.iload 15, 2) := by decide +kernel
theorem dX11_many_259 : decode cX11_many 259 = .ok (.iload 8, 2) := by decide +kernel
theorem dX11_many_261 : decode cX11_many 261 = .ok (.ifCond .ne 7, 3) := by decide +kernel
theorem dX11_many_264 : decode cX11_many 264 = .ok (.iconst 1, 1) := by decide +kernel
theorem dX11_many_265 : decode cX11_many 265 = .ok (.goto 4, 3) := by decide +kernel
theorem dX11_many_268 : decode cX11_many 268 = .ok (.iconst 0, 1) := by decide +kernel
theorem dX11_many_269 : decode cX11_many 269 = .ok (.invokevirtual 253, 3) := by decide +kernel
theorem dX11_many_272 : decode cX11_many 272 = .ok (.ifCond .ne 14, 3) := by decide +kernel
theorem dX11_many_275 : decode cX11_many 275 = .ok (.aload_n 0, 1) := by decide +kernel
theorem dX11_many_276 : decode cX11_many 276 = .ok (.iconst 3, 1) := by decide +kernel
theorem dX11_many_277 : decode cX11_many 277 = .ok (.iconst 3, 1) := by decide +kernel
theorem dX11_many_278 : decode cX11_many 278 = .ok (.bipush 16, 2) := by decide +kernel
theorem dX11_many_280 : decode cX11_many 280 = .ok (.bipush 8, 2) := by decide +kernel
theorem dX11_many_282 : decode cX11_many 282 = .ok (.invokevirtual 238, 3) := by decide +kernel
theorem dX11_many_285 : decode cX11_many 285 = .ok (.ireturn, 1) := by decide +kernel
theorem dX11_many_286 : decode cX11_many 286 = .ok (.aload_n 0, 1) := by decide +kernel
theorem dX11_many_287 : decode cX11_many 287 = .ok (.getfield 22, 3) := by decide +kernel
theorem dX11_many_290 : decode cX11_many 290 = .ok (.iload 14, 2) := by decide +kernel
theorem dX11_many_292 : decode cX11_many 292 = .ok (.aload_n 0, 1) := by decide +kernel
theorem dX11_many_293 : decode cX11_many 293 = .ok (.iload 15, 2) := by decide +kernel
theorem dX11_many_295 : decode cX11_many 295 = .ok (.invokevirtual 257, 3) := by decide +kernel
theorem dX11_many_298 : decode cX11_many 298 = .ok (.iastore, 1) := by decide +kernel
theorem dX11_many_299 : decode cX11_many 299 = .ok (.iinc 14 1, 3) := by decide +kernel
theorem dX11_many_302 : decode cX11_many 302 = .ok (.goto (-66), 3) := by decide +kernel
theorem dX11_many_305 : decode cX11_many 305 = .ok (.iload 6, 2) := by decide +kernel
theorem dX11_many_307 : decode cX11_many 307 = .ok (.ifCond .eq 17, 3) := by decide +kernel
theorem dX11_many_310 : decode cX11_many 310 = .ok (.iload 8, 2) := by decide +kernel
theorem dX11_many_312 : decode cX11_many 312 = .ok (.ifCond .eq 8, 3) := by decide +kernel
theorem dX11_many_315 : decode cX11_many 315 = .ok (.iload 9, 2) := by decide +kernel
theorem dX11_many_317 : decode cX11_many 317 = .ok (.ifCond .ne 7, 3) := by decide +kernel
theorem dX11_many_320 : decode cX11_many 320 = .ok (.iconst 1, 1) := by decide +kernel
theorem dX11_many_321 : decode cX11_many 321 = .ok (.goto 4, 3) := by decide +kernel
theorem dX11_many_324 : decode cX11_many 324 = .ok (.iconst 0, 1) := by decide +kernel
theorem dX11_many_325 : decode cX11_many 325 = .ok (.istore 14, 2) := by decide +kernel
theorem dX11_many_327 : decode cX11_many 327 = .ok (.iload 7, 2) := by decide +kernel
theorem dX11_many_329 : decode cX11_many 329 = .ok (.ifCond .eq 38, 3) := by decide +kernel
theorem dX11_many_332 : decode cX11_many 332 = .ok (.iload 10, 2) := by decide +kernel
theorem dX11_many_334 : decode cX11_many 334 = .ok (.bipush 15, 2) := by decide +kernel
theorem dX11_many_336 : decode cX11_many 336 = .ok (.if_icmp .ge 31, 3) := by decide +kernel
theorem dX11_many_339 : decode cX11_many 339 = .ok (.aload_n 0, 1) := by decide +kernel
theorem dX11_many_340 : decode cX11_many 340 = .ok (.iload 13, 2) := by decide +kernel
theorem dX11_many_342 : decode cX11_many 342 = .ok (.iload 10, 2) := by decide +kernel
theorem dX11_many_344 : decode cX11_many 344 = .ok (.iload 5, 2) := by decide +kernel
theorem dX11_many_346 : decode cX11_many 346 = .ok (.ifCond .eq 12, 3) := by decide +kernel
theorem dX11_many_349 : decode cX11_many 349 = .ok (.iload 11, 2) := by decide +kernel
theorem dX11_many_351 : decode cX11_many 351 = .ok (.iconst 4, 1) := by decide +kernel
theorem dX11_many_352 : decode cX11_many 352 = .ok (.iload_n 2, 1) := by decide +kernel
theorem dX11_many_353 : decode cX11_many 353 = .ok (.imul, 1) := by decide +kernel
theorem dX11_many_354 : decode cX11_many 354 = .ok (.iadd, 1) := by decide +kernel
theorem dX11_many_355 : decode cX11_many 355 = .ok (.goto 9, 3) := by decide +kernel
theorem dX11_many_358 : decode cX11_many 358 = .ok (.iload 11, 2) := by decide +kernel
theorem dX11_many_360 : decode cX11_many 360 = .ok (.iconst 4, 1) := by decide +kernel
theorem dX11_many_361 : decode cX11_many 361 = .ok (.iload_n 2, 1) := by decide +kernel
theorem dX11_many_362 : decode cX11_many 362 = .ok (.imul, 1) := by decide +kernel
theorem dX11_many_363 : decode cX11_many 363 = .ok (.isub, 1) := by decide +kernel
theorem dX11_many_364 : decode cX11_many 364 = .ok (.invokevirtual 235, 3) := by decide +kernel
theorem dX11_many_367 : decode cX11_many 367 = .ok (.iconst 0, 1) := by decide +kernel
theorem dX11_many_368 : decode cX11_many 368 = .ok (.istore 15, 2) := by decide +kernel
theorem dX11_many_370 : decode cX11_many 370 = .ok (.iconst 0, 1) := by decide +kernel
theorem dX11_many_371 : decode cX11_many 371 = .ok (.istore 16, 2) := by decide +kernel
theorem dX11_many_373 : decode cX11_many 373 = .ok (.iconst 0, 1) := by decide +kernel
theorem dX11_many_374 : decode cX11_many 374 = .ok (.istore 17, 2) := by decide +kernel
theorem dX11_many_376 : decode cX11_many 376 = .ok (.iload 17, 2) := by decide +kernel
theorem dX11_many_378 : decode cX11_many 378 = .ok (.bipush 16, 2) := by decide +kernel
theorem dX11_many_380 : decode cX11_many 380 = .ok (.if_icmp .ge 229, 3) := by decide +kernel
theorem dX11_many_383 : decode cX11_many 383 = .ok (.iload_n 1, 1) := by decide +kernel
theorem dX11_many_384 : decode cX11_many 384 = .ok (.iload 17, 2) := by decide +kernel
theorem dX11_many_386 : decode cX11_many 386 = .ok (.ishr, 1) := by decide +kernel
theorem dX11_many_387 : decode cX11_many 387 = .ok (.iconst 1, 1) := by decide +kernel
theorem dX11_many_388 : decode cX11_many 388 = .ok (.iand, 1) := by decide +kernel
theorem dX11_many_389 : decode cX11_many 389 = .ok (.ifCond .ne 6, 3) := by decide +kernel
theorem dX11_many_392 : decode cX11_many 392 = .ok (.goto 211, 3) := by decide +kernel
theorem dX11_many_395 : decode cX11_many 395 = .ok (.iload 12, 2) := by decide +kernel
theorem dX11_many_397 : decode cX11_many 397 = .ok (.iconst 4, 1) := by decide +kernel
theorem dX11_many_398 : decode cX11_many 398 = .ok (.iload 15, 2) := by decide +kernel
theorem dX11_many_400 : decode cX11_many 400 = .ok (.imul, 1) := by decide +kernel
theorem dX11_many_401 : decode cX11_many 401 = .ok (.iadd, 1) := by decide +kernel
theorem dX11_many_402 : decode cX11_many 402 = .ok (.ldc 143, 2) := by decide +kernel
theorem dX11_many_404 : decode cX11_many 404 = .ok (.iand, 1) := by decide +kernel
theorem dX11_many_405 : decode cX11_many 405 = .ok (.istore 18, 2) := by decide +kernel
theorem dX11_many_407 : decode cX11_many 407 = .ok (.iload 14, 2) := by decide +kernel
theorem dX11_many_409 : decode cX11_many 409 = .ok (.ifCond .eq 7, 3) := by decide +kernel
theorem dX11_many_412 : decode cX11_many 412 = .ok (.iconst 0, 1) := by decide +kernel
theorem dX11_many_413 : decode cX11_many 413 = .ok (.goto 5, 3) := by decide +kernel
theorem dX11_many_416 : decode cX11_many 416 = .ok (.iload 13, 2) := by decide +kernel
theorem dX11_many_418 : decode cX11_many 418 = .ok (.istore 19, 2) := by decide +kernel
theorem dX11_many_420 : decode cX11_many 420 = .ok (.iload 8, 2) := by decide +kernel
theorem dX11_many_422 : decode cX11_many 422 = .ok (.ifCond .eq 69, 3) := by decide +kernel
theorem dX11_many_425 : decode cX11_many 425 = .ok (.aload_n 0, 1) := by decide +kernel
theorem dX11_many_426 : decode cX11_many 426 = .ok (.getfield 22, 3) := by decide +kernel
theorem dX11_many_429 : decode cX11_many 429 = .ok (.iload 15, 2) := by decide +kernel
theorem dX11_many_431 : decode cX11_many 431 = .ok (.iaload, 1) := by decide +kernel
theorem dX11_many_432 : decode cX11_many 432 = .ok (.iconst (-1), 1) := by decide +kernel
theorem dX11_many_433 : decode cX11_many 433 = .ok (.if_icmp .ne 12, 3) := by decide +kernel
theorem dX11_many_436 : decode cX11_many 436 = .ok (.aload_n 0, 1) := by decide +kernel
theorem dX11_many_437 : decode cX11_many 437 = .ok (.iload 18, 2) := by decide +kernel
theorem dX11_many_439 : decode cX11_many 439 = .ok (.invokevirtual 322, 3) := by decide +kernel
theorem dX11_many_442 : decode cX11_many 442 = .ok (.goto 15, 3) := by decide +kernel
theorem dX11_many_445 : decode cX11_many 445 = .ok (.aload_n 0, 1) := by decide +kernel
theorem dX11_many_446 : decode cX11_many 446 = .ok (.getfield 25, 3) := by decide +kernel
theorem dX11_many_449 : decode cX11_many 449 = .ok (.aload_n 0, 1) := by decide +kernel
theorem dX11_many_450 : decode cX11_many 450 = .ok (.getfield 22, 3) := by decide +kernel
theorem dX11_many_453 : decode cX11_many 453 = .ok (.iload 15, 2) := by decide +kernel
theorem dX11_many_455 : decode cX11_many 455 = .ok (.iaload, 1) := by decide +kernel
theorem dX11_many_456 : decode cX11_many 456 = .ok (.iaload, 1) := by decide +kernel
theorem dX11_many_457 : decode cX11_many 457 = .ok (.istore 16, 2) := by decide +kernel
theorem dX11_many_459 : decode cX11_many 459 = .ok (.iload 17, 2) := by decide +kernel
theorem dX11_many_461 : decode cX11_many 461 = .ok (.bipush 15, 2) := by decide +kernel
theorem dX11_many_463 : decode cX11_many 463 = .ok (.if_icmp .ge 16, 3) := by decide +kernel
theorem dX11_many_466 : decode cX11_many 466 = .ok (.aload_n 0, 1) := by decide +kernel
theorem dX11_many_467 : decode cX11_many 467 = .ok (.iload 19, 2) := by decide +kernel
theorem dX11_many_469 : decode cX11_many 469 = .ok (.iload 17, 2) := by decide +kernel
theorem dX11_many_471 : decode cX11_many 471 = .ok (.iload 16, 2) := by decide +kernel
theorem dX11_many_473 : decode cX11_many 473 = .ok (.invokevirtual 235, 3) := by decide +kernel
theorem dX11_many_476 : decode cX11_many 476 = .ok (.goto 124, 3) := by decide +kernel
theorem dX11_many_479 : decode cX11_many 479 = .ok (.aload_n 0, 1) := by decide +kernel
theorem dX11_many_480 : decode cX11_many 480 = .ok (.iload 16, 2) := by decide +kernel
theorem dX11_many_482 : decode cX11_many 482 = .ok (.ldc 143, 2) := by decide +kernel
theorem dX11_many_484 : decode cX11_many 484 = .ok (.iand, 1) := by decide +kernel
theorem dX11_many_485 : decode cX11_many 485 = .ok (.putfield 260, 3) := by decide +kernel
theorem dX11_many_488 : decode cX11_many 488 = .ok (.goto 112, 3) := by decide +kernel
theorem dX11_many_491 : decode cX11_many 491 = .ok (.iload 17, 2) := by decide +kernel
theorem dX11_many_493 : decode cX11_many 493 = .ok (.bipush 15, 2) := by decide +kernel
theorem dX11_many_495 : decode cX11_many 495 = .ok (.if_icmp .ne 20, 3) := by decide +kernel
theorem dX11_many_498 : decode cX11_many 498 = .ok (.aload_n 0, 1) := by decide +kernel
theorem dX11_many_499 : decode cX11_many 499 = .ok (.getfield 77, 3) := by decide +kernel
theorem dX11_many_502 : decode cX11_many 502 = .ok (.ldc 157, 2) := by decide +kernel
theorem dX11_many_504 : decode cX11_many 504 = .ok (.iand, 1) := by decide +kernel
theorem dX11_many_505 : decode cX11_many 505 = .ok (.aload_n 0, 1) := by decide +kernel
theorem dX11_many_506 : decode cX11_many 506 = .ok (.bipush 12, 2) := by decide +kernel
theorem dX11_many_508 : decode cX11_many 508 = .ok (.invokevirtual 144, 3) := by decide +kernel
theorem dX11_many_511 : decode cX11_many 511 = .ok (.ior, 1) := by decide +kernel
theorem dX11_many_512 : decode cX11_many 512 = .ok (.goto 11, 3) := by decide +kernel
theorem dX11_many_515 : decode cX11_many 515 = .ok (.aload_n 0, 1) := by decide +kernel
theorem dX11_many_516 : decode cX11_many 516 = .ok (.iload 19, 2) := by decide +kernel
theorem dX11_many_518 : decode cX11_many 518 = .ok (.iload 17, 2) := by decide +kernel
theorem dX11_many_520 : decode cX11_many 520 = .ok (.invokevirtual 152, 3) := by decide +kernel
theorem dX11_many_523 : decode cX11_many 523 = .ok (.istore 20, 2) := by decide +kernel
theorem dX11_many_525 : decode cX11_many 525 = .ok (.iload 17, 2) := by decide +kernel
theorem dX11_many_527 : decode cX11_many 527 = .ok (.iload 10, 2) := by decide +kernel
theorem dX11_many_529 : decode cX11_many 529 = .ok (.if_icmp .ne 35, 3) := by decide +kernel
theorem dX11_many_532 : decode cX11_many 532 = .ok (.iload 17, 2) := by decide +kernel
theorem dX11_many_534 : decode cX11_many 534 = .ok (.bipush 15, 2) := by decide +kernel
theorem dX11_many_536 : decode cX11_many 536 = .ok (.if_icmp .ge 28, 3) := by decide +kernel
theorem dX11_many_539 : decode cX11_many 539 = .ok (.iload 17, 2) := by decide +kernel
theorem dX11_many_541 : decode cX11_many 541 = .ok (.iload_n 3, 1) := by decide +kernel
theorem dX11_many_542 : decode cX11_many 542 = .ok (.if_icmp .ne 22, 3) := by decide +kernel
theorem dX11_many_545 : decode cX11_many 545 = .ok (.iload 14, 2) := by decide +kernel
theorem dX11_many_547 : decode cX11_many 547 = .ok (.ifCond .eq 13, 3) := by decide +kernel
theorem dX11_many_550 : decode cX11_many 550 = .ok (.iload 13, 2) := by decide +kernel
theorem dX11_many_552 : decode cX11_many 552 = .ok (.iload 17, 2) := by decide +kernel
theorem dX11_many_554 : decode cX11_many 554 = .ok (.invokestatic 136, 3) := by decide +kernel
theorem dX11_many_557 : decode cX11_many 557 = .ok (.ifCond .ne 7, 3) := by decide +kernel
theorem dX11_many_560 : decode cX11_many 560 = .ok (.iload 11, 2) := by decide +kernel
theorem dX11_many_562 : decode cX11_many 562 = .ok (.istore 20, 2) := by decide +kernel
theorem dX11_many_564 : decode cX11_many 564 = .ok (.aload_n 0, 1) := by decide +kernel
theorem dX11_many_565 : decode cX11_many 565 = .ok (.getfield 22, 3) := by decide +kernel
theorem dX11_many_568 : decode cX11_many 568 = .ok (.iload 15, 2) := by decide +kernel
theorem dX11_many_570 : decode cX11_many 570 = .ok (.iaload, 1) := by decide +kernel
theorem dX11_many_571 : decode cX11_many 571 = .ok (.iconst (-1), 1) := by decide +kernel
theorem dX11_many_572 : decode cX11_many 572 = .ok (.if_icmp .ne 14, 3) := by decide +kernel
theorem dX11_many_575 : decode cX11_many 575 = .ok (.aload_n 0, 1) := by decide +kernel
theorem dX11_many_576 : decode cX11_many 576 = .ok (.iload 18, 2) := by decide +kernel
theorem dX11_many_578 : decode cX11_many 578 = .ok (.iload 20, 2) := by decide +kernel
theorem dX11_many_580 : decode cX11_many 580 = .ok (.invokevirtual 326, 3) := by decide +kernel
theorem dX11_many_583 : decode cX11_many 583 = .ok (.goto 17, 3) := by decide +kernel
theorem dX11_many_586 : decode cX11_many 586 = .ok (.aload_n 0, 1) := by decide +kernel
theorem dX11_many_587 : decode cX11_many 587 = .ok (.getfield 25, 3) := by decide +kernel
theorem dX11_many_590 : decode cX11_many 590 = .ok (.aload_n 0, 1) := by decide +kernel
theorem dX11_many_591 : decode cX11_many 591 = .ok (.getfield 22, 3) := by decide +kernel
theorem dX11_many_594 : decode cX11_many 594 = .ok (.iload 15, 2) := by decide +kernel
theorem dX11_many_596 : decode cX11_many 596 = .ok (.iaload, 1) := by decide +kernel
theorem dX11_many_597 : decode cX11_many 597 = .ok (.iload 20, 2) := by decide +kernel
theorem dX11_many_599 : decode cX11_many 599 = .ok (.iastore, 1) := by decide +kernel
theorem dX11_many_600 : decode cX11_many 600 = .ok (.iinc 15 1, 3) := by decide +kernel
theorem dX11_many_603 : decode cX11_many 603 = .ok (.iinc 17 1, 3) := by decide +kernel
theorem dX11_many_606 : decode cX11_many 606 = .ok (.goto (-230), 3) := by decide +kernel
theorem dX11_many_609 : decode cX11_many 609 = .ok (.iload 8, 2) := by decide +kernel
theorem dX11_many_611 : decode cX11_many 611 = .ok (.ifCond .eq 19, 3) := by decide +kernel
theorem dX11_many_614 : decode cX11_many 614 = .ok (.iload 9, 2) := by decide +kernel
theorem dX11_many_616 : decode cX11_many 616 = .ok (.ifCond .eq 14, 3) := by decide +kernel
theorem dX11_many_619 : decode cX11_many 619 = .ok (.iload 6, 2) := by decide +kernel
theorem dX11_many_621 : decode cX11_many 621 = .ok (.ifCond .eq 9, 3) := by decide +kernel
theorem dX11_many_624 : decode cX11_many 624 = .ok (.aload_n 0, 1) := by decide +kernel
theorem dX11_many_625 : decode cX11_many 625 = .ok (.iload 16, 2) := by decide +kernel
theorem dX11_many_627 : decode cX11_many 627 = .ok (.invokevirtual 314, 3) := by decide +kernel
theorem dX11_many_630 : decode cX11_many 630 = .ok (.iconst 2, 1) := by decide +kernel
theorem dX11_many_631 : decode cX11_many 631 = .ok (.iload_n 2, 1) := by decide +kernel
theorem dX11_many_632 : decode cX11_many 632 = .ok (.iadd, 1) := by decide +kernel
theorem dX11_many_633 : decode cX11_many 633 = .ok (.iload 8, 2) := by decide +kernel
theorem dX11_many_635 : decode cX11_many 635 = .ok (.ifCond .eq 12, 3) := by decide +kernel
theorem dX11_many_638 : decode cX11_many 638 = .ok (.iload 9, 2) := by decide +kernel
theorem dX11_many_640 : decode cX11_many 640 = .ok (.ifCond .eq 7, 3) := by decide +kernel
theorem dX11_many_643 : decode cX11_many 643 = .ok (.iconst 3, 1) := by decide +kernel
theorem dX11_many_644 : decode cX11_many 644 = .ok (.goto 4, 3) := by decide +kernel
theorem dX11_many_647 : decode cX11_many 647 = .ok (.iconst 0, 1) := by decide +kernel
theorem dX11_many_648 : decode cX11_many 648 = .ok (.iadd, 1) := by decide +kernel
theorem dX11_many_649 : decode cX11_many 649 = .ok (.ireturn, 1) := by decide +kernel
theorem dX11_branch_0 : decode cX11_branch 0 = .ok (.iload_n 1, 1) := by decide +kernel
theorem dX11_branch_1 : decode cX11_branch 1 = .ok (.bipush 24, 2) := by decide +kernel
theorem dX11_branch_3 : decode cX11_branch 3 = .ok (.ishr, 1) := by decide +kernel
theorem dX11_branch_4 : decode cX11_branch 4 = .ok (.iconst 1, 1) := by decide +kernel
theorem dX11_branch_5 : decode cX11_branch 5 = .ok (.iand, 1) := by decide +kernel
theorem dX11_branch_6 : decode cX11_branch 6 = .ok (.iconst 1, 1) := by decide +kernel
theorem dX11_branch_7 : decode cX11_branch 7 = .ok (.if_icmp .ne 26, 3) := by decide +kernel
theorem dX11_branch_10 : decode cX11_branch 10 = .ok (.aload_n 0, 1) := by decide +kernel
theorem dX11_branch_11 : decode cX11_branch 11 = .ok (.aload_n 0, 1) := by decide +kernel
theorem dX11_branch_12 : decode cX11_branch 12 = .ok (.invokevirtual 148, 3) := by decide +kernel
theorem dX11_branch_15 : decode cX11_branch 15 = .ok (.bipush 14, 2) := by decide +kernel
theorem dX11_branch_17 : decode cX11_branch 17 = .ok (.aload_n 0, 1) := by decide +kernel
theorem dX11_branch_18 : decode cX11_branch 18 = .ok (.getfield 77, 3) := by decide +kernel
theorem dX11_branch_21 : decode cX11_branch 21 = .ok (.ldc 157, 2) := by decide +kernel
theorem dX11_branch_23 : decode cX11_branch 23 = .ok (.iand, 1) := by decide +kernel
theorem dX11_branch_24 : decode cX11_branch 24 = .ok (.aload_n 0, 1) := by decide +kernel
theorem dX11_branch_25 : decode cX11_branch 25 = .ok (.iconst 4, 1) := by decide +kernel
theorem dX11_branch_26 : decode cX11_branch 26 = .ok (.invokevirtual 144, 3) := by decide +kernel
theorem dX11_branch_29 : decode cX11_branch 29 = .ok (.ior, 1) := by decide +kernel
theorem dX11_branch_30 : decode cX11_branch 30 = .ok (.invokevirtual 235, 3) := by decide +kernel
theorem dX11_branch_33 : decode cX11_branch 33 = .ok (.aload_n 0, 1) := by decide +kernel
theorem dX11_branch_34 : decode cX11_branch 34 = .ok (.aload_n 0, 1) := by decide +kernel
theorem dX11_branch_35 : decode cX11_branch 35 = .ok (.bipush 8, 2) := by decide +kernel
theorem dX11_branch_37 : decode cX11_branch 37 = .ok (.iload_n 1, 1) := by decide +kernel
theorem dX11_branch_38 : decode cX11_branch 38 = .ok (.bipush 8, 2) := by decide +kernel
theorem dX11_branch_40 : decode cX11_branch 40 = .ok (.ishl, 1) := by decide +kernel
theorem dX11_branch_41 : decode cX11_branch 41 = .ok (.bipush 6, 2) := by decide +kernel
theorem dX11_branch_43 : decode cX11_branch 43 = .ok (.ishr, 1) := by decide +kernel
theorem dX11_branch_44 : decode cX11_branch 44 = .ok (.iadd, 1) := by decide +kernel
theorem dX11_branch_45 : decode cX11_branch 45 = .ok (.invokevirtual 144, 3) := by decide +kernel
theorem dX11_branch_48 : decode cX11_branch 48 = .ok (.putfield 260, 3) := by decide +kernel
theorem dX11_branch_51 : decode cX11_branch 51 = .ok (.iconst 4, 1) := by decide +kernel
theorem dX11_branch_52 : decode cX11_branch 52 = .ok (.ireturn, 1) := by decide +kernel
theorem dX11_poke_0 : decode cX11_poke 0 = .ok (.aload_n 0, 1) := by decide +kernel
theorem dX11_poke_1 : decode cX11_poke 1 = .ok (.iconst 0, 1) := by decide +kernel
theorem dX11_poke_2 : decode cX11_poke 2 = .ok (.putfield 73, 3) := by decide +kernel
theorem dX11_poke_5 : decode cX11_poke 5 = .ok (.iload_n 1, 1) := by decide +kernel
theorem dX11_poke_6 : decode cX11_poke 6 = .ok (.iconst 0, 1) := by decide +kernel
theorem dX11_poke_7 : decode cX11_poke 7 = .ok (.sipush 16382, 3) := by decide +kernel
theorem dX11_poke_10 : decode cX11_poke 10 = .ok (.invokestatic 185, 3) := by decide +kernel
theorem dX11_poke_13 : decode cX11_poke 13 = .ok (.ifCond .ne 5, 3) := by decide +kernel
theorem dX11_poke_16 : decode cX11_poke 16 = .ok (.iconst 0, 1) := by decide +kernel
theorem dX11_poke_17 : decode cX11_poke 17 = .ok (.ireturn, 1) := by decide +kernel
theorem dX11_poke_18 : decode cX11_poke 18 = .ok (.aload_n 0, 1) := by decide +kernel
theorem dX11_poke_19 : decode cX11_poke 19 = .ok (.getfield 25, 3) := by decide +kernel
theorem dX11_poke_22 : decode cX11_poke 22 = .ok (.iload_n 1, 1) := by decide +kernel
theorem dX11_poke_23 : decode cX11_poke 23 = .ok (.iload_n 2, 1) := by decide +kernel
theorem dX11_poke_24 : decode cX11_poke 24 = .ok (.iastore, 1) := by decide +kernel
theorem dX11_poke_25 : decode cX11_poke 25 = .ok (.aload_n 0, 1) := by decide +kernel
theorem dX11_poke_26 : decode cX11_poke 26 = .ok (.getfield 25, 3) := by decide +kernel
theorem dX11_poke_29 : decode cX11_poke 29 = .ok (.iload_n 1, 1) := by decide +kernel
theorem dX11_poke_30 : decode cX11_poke 30 = .ok (.iconst 1, 1) := by decide +kernel
theorem dX11_poke_31 : decode cX11_poke 31 = .ok (.iadd, 1) := by decide +kernel
theorem dX11_poke_32 : decode cX11_poke 32 = .ok (.iload_n 3, 1) := by decide +kernel
theorem dX11_poke_33 : decode cX11_poke 33 = .ok (.iastore, 1) := by decide +kernel
theorem dX11_poke_34 : decode cX11_poke 34 = .ok (.iconst 1, 1) := by decide +kernel
theorem dX11_poke_35 : decode cX11_poke 35 = .ok (.ireturn, 1) := by decide +kernel
theorem dX11_peek_0 : decode cX11_peek 0 = .ok (.aload_n 0, 1) := by decide +kernel
theorem dX11_peek_1 : decode cX11_peek 1 = .ok (.iconst 0, 1) := by decide +kernel
theorem dX11_peek_2 : decode cX11_peek 2 = .ok (.putfield 73, 3) := by decide +kernel
theorem dX11_peek_5 : decode cX11_peek 5 = .ok (.iload_n 1, 1) := by decide +kernel
theorem dX11_peek_6 : decode cX11_peek 6 = .ok (.iconst 0, 1) := by decide +kernel
theorem dX11_peek_7 : decode cX11_peek 7 = .ok (.sipush 16383, 3) := by decide +kernel
theorem dX11_peek_10 : decode cX11_peek 10 = .ok (.invokestatic 185, 3) := by decide +kernel
theorem dX11_peek_13 : decode cX11_peek 13 = .ok (.ifCond .eq 12, 3) := by decide +kernel
theorem dX11_peek_16 : decode cX11_peek 16 = .ok (.aload_n 0, 1) := by decide +kernel
theorem dX11_peek_17 : decode cX11_peek 17 = .ok (.getfield 25, 3) := by decide +kernel
theorem dX11_peek_20 : decode cX11_peek 20 = .ok (.iload_n 1, 1) := by decide +kernel
theorem dX11_peek_21 : decode cX11_peek 21 = .ok (.iaload, 1) := by decide +kernel
theorem dX11_peek_22 : decode cX11_peek 22 = .ok (.goto 7, 3) := by decide +kernel
theorem dX11_peek_25 : decode cX11_peek 25 = .ok (.aload_n 0, 1) := by decide +kernel
theorem dX11_peek_26 : decode cX11_peek 26 = .ok (.invokevirtual 329, 3) := by decide +kernel
theorem dX11_peek_29 : decode cX11_peek 29 = .ok (.ireturn, 1) := by decide +kernel
theorem dX11_isStored_0 : decode cX11_isStored 0 = .ok (.iload_n 0, 1) := by decide +kernel
theorem dX11_isStored_1 : decode cX11_isStored 1 = .ok (.iconst 0, 1) := by decide +kernel
theorem dX11_isStored_2 : decode cX11_isStored 2 = .ok (.bipush 15, 2) := by decide +kernel
theorem dX11_isStored_4 : decode cX11_isStored 4 = .ok (.invokestatic 185, 3) := by decide +kernel
theorem dX11_isStored_7 : decode cX11_isStored 7 = .ok (.ifCond .eq 18, 3) := by decide +kernel
theorem dX11_isStored_10 : decode cX11_isStored 10 = .ok (.iload_n 1, 1) := by decide +kernel
theorem dX11_isStored_11 : decode cX11_isStored 11 = .ok (.iconst 0, 1) := by decide +kernel
theorem dX11_isStored_12 : decode cX11_isStored 12 = .ok (.sipush 1023, 3) := by decide +kernel
theorem dX11_isStored_15 : decode cX11_isStored 15 = .ok (.invokestatic 185, 3) := by decide +kernel
theorem dX11_isStored_18 : decode cX11_isStored 18 = .ok (.ifCond .eq 7, 3) := by decide +kernel
theorem dX11_isStored_21 : decode cX11_isStored 21 = .ok (.iconst 1, 1) := by decide +kernel
theorem dX11_isStored_22 : decode cX11_isStored 22 = .ok (.goto 4, 3) := by decide +kernel
theorem dX11_isStored_25 : decode cX11_isStored 25 = .ok (.iconst 0, 1) := by decide +kernel
theorem dX11_isStored_26 : decode cX11_isStored 26 = .ok (.ireturn, 1) := by decide +kernel
theorem dX11_store_0 : decode cX11_store 0 = .ok (.aload_n 0, 1) := by decide +kernel
theorem dX11_store_1 : decode cX11_store 1 = .ok (.iconst 0, 1) := by decide +kernel
theorem dX11_store_2 : decode cX11_store 2 = .ok (.putfield 73, 3) := by decide +kernel
theorem dX11_store_5 : decode cX11_store 5 = .ok (.iload_n 1, 1) := by decide +kernel
theorem dX11_store_6 : decode cX11_store 6 = .ok (.iload_n 2, 1) := by decide +kernel
theorem dX11_store_7 : decode cX11_store 7 = .ok (.invokestatic 332, 3) := by decide +kernel
theorem dX11_store_10 : decode cX11_store 10 = .ok (.ifCond .ne 5, 3) := by decide +kernel
theorem dX11_store_13 : decode cX11_store 13 = .ok (.iconst 0, 1) := by decide +kernel
theorem dX11_store_14 : decode cX11_store 14 = .ok (.ireturn, 1) := by decide +kernel
theorem dX11_store_15 : decode cX11_store 15 = .ok (.aload_n 0, 1) := by decide +kernel
theorem dX11_store_16 : decode cX11_store 16 = .ok (.getfield 28, 3) := by decide +kernel
theorem dX11_store_19 : decode cX11_store 19 = .ok (.sipush 1024, 3) := by decide +kernel
theorem dX11_store_22 : decode cX11_store 22 = .ok (.iload_n 1, 1) := by decide +kernel
theorem dX11_store_23 : decode cX11_store 23 = .ok (.imul, 1) := by decide +kernel
theorem dX11_store_24 : decode cX11_store 24 = .ok (.iload_n 2, 1) := by decide +kernel
theorem dX11_store_25 : decode cX11_store 25 = .ok (.iadd, 1) := by decide +kernel
theorem dX11_store_26 : decode cX11_store 26 = .ok (.iload_n 3, 1) := by decide +kernel
theorem dX11_store_27 : decode cX11_store 27 = .ok (.iastore, 1) := by decide +kernel
theorem dX11_store_28 : decode cX11_store 28 = .ok (.iconst 1, 1) := by decide +kernel
theorem dX11_store_29 : decode cX11_store 29 = .ok (.ireturn, 1) := by decide +kernel
theorem dX11_stored_0 : decode cX11_stored 0 = .ok (.aload_n 0, 1) := by decide +kernel
theorem dX11_stored_1 : decode cX11_stored 1 = .ok (.iconst 0, 1) := by decide +kernel
theorem dX11_stored_2 : decode cX11_stored 2 = .ok (.putfield 73, 3) := by decide +kernel
theorem dX11_stored_5 : decode cX11_stored 5 = .ok (.iload_n 1, 1) := by decide +kernel
theorem dX11_stored_6 : decode cX11_stored 6 = .ok (.iload_n 2, 1) := by decide +kernel
theorem dX11_stored_7 : decode cX11_stored 7 = .ok (.invokestatic 332, 3) := by decide +kernel
theorem dX11_stored_10 : decode cX11_stored 10 = .ok (.ifCond .eq 18, 3) := by decide +kernel
theorem dX11_stored_13 : decode cX11_stored 13 = .ok (.aload_n 0, 1) := by decide +kernel
theorem dX11_stored_14 : decode cX11_stored 14 = .ok (.getfield 28, 3) := by decide +kernel
theorem dX11_stored_17 : decode cX11_stored 17 = .ok (.sipush 1024, 3) := by decide +kernel
theorem dX11_stored_20 : decode cX11_stored 20 = .ok (.iload_n 1, 1) := by decide +kernel
theorem dX11_stored_21 : decode cX11_stored 21 = .ok (.imul, 1) := by decide +kernel
theorem dX11_stored_22 : decode cX11_stored 22 = .ok (.iload_n 2, 1) := by decide +kernel
theorem dX11_stored_23 : decode cX11_stored 23 = .ok (.iadd, 1) := by decide +kernel
theorem dX11_stored_24 : decode cX11_stored 24 = .ok (.iaload, 1) := by decide +kernel
theorem dX11_stored_25 : decode cX11_stored 25 = .ok (.goto 7, 3) := by decide +kernel
theorem dX11_stored_28 : decode cX11_stored 28 = .ok (.aload_n 0, 1) := by decide +kernel
theorem dX11_stored_29 : decode cX11_stored 29 = .ok (.invokevirtual 329, 3) := by decide +kernel
theorem dX11_stored_32 : decode cX11_stored 32 = .ok (.ireturn, 1) := by decide +kernel
theorem dX11_key_0 : decode cX11_key 0 = .ok (.aload_n 0, 1) := by decide +kernel
theorem dX11_key_1 : decode cX11_key 1 = .ok (.iconst 0, 1) := by decide +kernel
theorem dX11_key_2 : decode cX11_key 2 = .ok (.putfield 73, 3) := by decide +kernel
theorem dX11_key_5 : decode cX11_key 5 = .ok (.aload_n 0, 1) := by decide +kernel
theorem dX11_key_6 : decode cX11_key 6 = .ok (.getfield 111, 3) := by decide +kernel
theorem dX11_key_9 : decode cX11_key 9 = .ok (.ifCond .eq 5, 3) := by decide +kernel
theorem dX11_key_12 : decode cX11_key 12 = .ok (.iconst 0, 1) := by decide +kernel
theorem dX11_key_13 : decode cX11_key 13 = .ok (.ireturn, 1) := by decide +kernel
theorem dX11_key_14 : decode cX11_key 14 = .ok (.aload_n 0, 1) := by decide +kernel
theorem dX11_key_15 : decode cX11_key 15 = .ok (.iconst 1, 1) := by decide +kernel
theorem dX11_key_16 : decode cX11_key 16 = .ok (.putfield 111, 3) := by decide +kernel
theorem dX11_key_19 : decode cX11_key 19 = .ok (.aload_n 0, 1) := by decide +kernel
theorem dX11_key_20 : decode cX11_key 20 = .ok (.iload_n 1, 1) := by decide +kernel
theorem dX11_key_21 : decode cX11_key 21 = .ok (.sipush 255, 3) := by decide +kernel
theorem dX11_key_24 : decode cX11_key 24 = .ok (.iand, 1) := by decide +kernel
theorem dX11_key_25 : decode cX11_key 25 = .ok (.putfield 108, 3) := by decide +kernel
theorem dX11_key_28 : decode cX11_key 28 = .ok (.iconst 1, 1) := by decide +kernel
theorem dX11_key_29 : decode cX11_key 29 = .ok (.ireturn, 1) := by decide +kernel
theorem dX11_whole_0 : decode cX11_whole 0 = .ok (.aload_n 0, 1) := by decide +kernel
theorem dX11_whole_1 : decode cX11_whole 1 = .ok (.invokevirtual 335, 3) := by decide +kernel
theorem dX11_whole_4 : decode cX11_whole 4 = .ok (.istore_n 1, 1) := by decide +kernel
theorem dX11_whole_5 : decode cX11_whole 5 = .ok (.aload_n 0, 1) := by decide +kernel
theorem dX11_whole_6 : decode cX11_whole 6 = .ok (.dup, 1) := by decide +kernel
theorem dX11_whole_7 : decode cX11_whole 7 = .ok (.getfield 338, 3) := by decide +kernel
theorem dX11_whole_10 : decode cX11_whole 10 = .ok (.lconst 1, 1) := by decide +kernel
theorem dX11_whole_11 : decode cX11_whole 11 = .ok (.ladd, 1) := by decide +kernel
theorem dX11_whole_12 : decode cX11_whole 12 = .ok (.putfield 338, 3) := by decide +kernel
theorem dX11_whole_15 : decode cX11_whole 15 = .ok (.iconst 0, 1) := by decide +kernel
theorem dX11_whole_16 : decode cX11_whole 16 = .ok (.istore_n 2, 1) := by decide +kernel
theorem dX11_whole_17 : decode cX11_whole 17 = .ok (.iload_n 2, 1) := by decide +kernel
theorem dX11_whole_18 : decode cX11_whole 18 = .ok (.iload_n 1, 1) := by decide +kernel
theorem dX11_whole_19 : decode cX11_whole 19 = .ok (.if_icmp .ge 13, 3) := by decide +kernel
theorem dX11_whole_22 : decode cX11_whole 22 = .ok (.aload_n 0, 1) := by decide +kernel
theorem dX11_whole_23 : decode cX11_whole 23 = .ok (.invokevirtual 341, 3) := by decide +kernel
theorem dX11_whole_26 : decode cX11_whole 26 = .ok (.iinc 2 1, 3) := by decide +kernel
theorem dX11_whole_29 : decode cX11_whole 29 = .ok (.goto (-12), 3) := by decide +kernel
theorem dX11_whole_32 : decode cX11_whole 32 = .ok (.iload_n 1, 1) := by decide +kernel
theorem dX11_whole_33 : decode cX11_whole 33 = .ok (.ireturn, 1) := by decide +kernel
theorem dX11_stops_0 : decode cX11_stops 0 = .ok (.aload_n 0, 1) := by decide +kernel
theorem dX11_stops_1 : decode cX11_stops 1 = .ok (.getfield 62, 3) := by decide +kernel
theorem dX11_stops_4 : decode cX11_stops 4 = .ok (.iconst (-1), 1) := by decide +kernel
theorem dX11_stops_5 : decode cX11_stops 5 = .ok (.if_icmp .eq 21, 3) := by decide +kernel
theorem dX11_stops_8 : decode cX11_stops 8 = .ok (.aload_n 0, 1) := by decide +kernel
theorem dX11_stops_9 : decode cX11_stops 9 = .ok (.getfield 77, 3) := by decide +kernel
theorem dX11_stops_12 : decode cX11_stops 12 = .ok (.ldc 143, 2) := by decide +kernel
theorem dX11_stops_14 : decode cX11_stops 14 = .ok (.iand, 1) := by decide +kernel
theorem dX11_stops_15 : decode cX11_stops 15 = .ok (.aload_n 0, 1) := by decide +kernel
theorem dX11_stops_16 : decode cX11_stops 16 = .ok (.getfield 62, 3) := by decide +kernel
theorem dX11_stops_19 : decode cX11_stops 19 = .ok (.if_icmp .ne 7, 3) := by decide +kernel
theorem dX11_stops_22 : decode cX11_stops 22 = .ok (.iconst 1, 1) := by decide +kernel
theorem dX11_stops_23 : decode cX11_stops 23 = .ok (.goto 4, 3) := by decide +kernel
theorem dX11_stops_26 : decode cX11_stops 26 = .ok (.iconst 0, 1) := by decide +kernel
theorem dX11_stops_27 : decode cX11_stops 27 = .ok (.ireturn, 1) := by decide +kernel
theorem dX11_step_0 : decode cX11_step 0 = .ok (.aload_n 0, 1) := by decide +kernel
theorem dX11_step_1 : decode cX11_step 1 = .ok (.iconst 0, 1) := by decide +kernel
theorem dX11_step_2 : decode cX11_step 2 = .ok (.putfield 73, 3) := by decide +kernel
theorem dX11_step_5 : decode cX11_step 5 = .ok (.iload_n 1, 1) := by decide +kernel
theorem dX11_step_6 : decode cX11_step 6 = .ok (.iconst 1, 1) := by decide +kernel
theorem dX11_step_7 : decode cX11_step 7 = .ok (.sipush 5000, 3) := by decide +kernel
theorem dX11_step_10 : decode cX11_step 10 = .ok (.invokestatic 185, 3) := by decide +kernel
theorem dX11_step_13 : decode cX11_step 13 = .ok (.ifCond .ne 8, 3) := by decide +kernel
theorem dX11_step_16 : decode cX11_step 16 = .ok (.aload_n 0, 1) := by decide +kernel
theorem dX11_step_17 : decode cX11_step 17 = .ok (.invokevirtual 329, 3) := by decide +kernel
theorem dX11_step_20 : decode cX11_step 20 = .ok (.ireturn, 1) := by decide +kernel
theorem dX11_step_21 : decode cX11_step 21 = .ok (.iconst 0, 1) := by decide +kernel
theorem dX11_step_22 : decode cX11_step 22 = .ok (.istore_n 2, 1) := by decide +kernel
theorem dX11_step_23 : decode cX11_step 23 = .ok (.iconst 1, 1) := by decide +kernel
theorem dX11_step_24 : decode cX11_step 24 = .ok (.istore_n 3, 1) := by decide +kernel
theorem dX11_step_25 : decode cX11_step 25 = .ok (.iload_n 3, 1) := by decide +kernel
theorem dX11_step_26 : decode cX11_step 26 = .ok (.ifCond .eq 38, 3) := by decide +kernel
theorem dX11_step_29 : decode cX11_step 29 = .ok (.aload_n 0, 1) := by decide +kernel
theorem dX11_step_30 : decode cX11_step 30 = .ok (.invokevirtual 344, 3) := by decide +kernel
theorem dX11_step_33 : decode cX11_step 33 = .ok (.istore 4, 2) := by decide +kernel
theorem dX11_step_35 : decode cX11_step 35 = .ok (.iinc 2 1, 3) := by decide +kernel
theorem dX11_step_38 : decode cX11_step 38 = .ok (.iload 4, 2) := by decide +kernel
theorem dX11_step_40 : decode cX11_step 40 = .ok (.ifCond .le 19, 3) := by decide +kernel
theorem dX11_step_43 : decode cX11_step 43 = .ok (.iload_n 2, 1) := by decide +kernel
theorem dX11_step_44 : decode cX11_step 44 = .ok (.iload_n 1, 1) := by decide +kernel
theorem dX11_step_45 : decode cX11_step 45 = .ok (.if_icmp .ge 14, 3) := by decide +kernel
theorem dX11_step_48 : decode cX11_step 48 = .ok (.aload_n 0, 1) := by decide +kernel
theorem dX11_step_49 : decode cX11_step 49 = .ok (.invokevirtual 347, 3) := by decide +kernel
theorem dX11_step_52 : decode cX11_step 52 = .ok (.ifCond .ne 7, 3) := by decide +kernel
theorem dX11_step_55 : decode cX11_step 55 = .ok (.iconst 1, 1) := by decide +kernel
theorem dX11_step_56 : decode cX11_step 56 = .ok (.goto 4, 3) := by decide +kernel
theorem dX11_step_59 : decode cX11_step 59 = .ok (.iconst 0, 1) := by decide +kernel
theorem dX11_step_60 : decode cX11_step 60 = .ok (.istore_n 3, 1) := by decide +kernel
theorem dX11_step_61 : decode cX11_step 61 = .ok (.goto (-36), 3) := by decide +kernel
theorem dX11_step_64 : decode cX11_step 64 = .ok (.iload_n 2, 1) := by decide +kernel
theorem dX11_step_65 : decode cX11_step 65 = .ok (.ireturn, 1) := by decide +kernel
theorem dX11_run_0 : decode cX11_run 0 = .ok (.aload_n 0, 1) := by decide +kernel
theorem dX11_run_1 : decode cX11_run 1 = .ok (.iconst 0, 1) := by decide +kernel
theorem dX11_run_2 : decode cX11_run 2 = .ok (.putfield 73, 3) := by decide +kernel
theorem dX11_run_5 : decode cX11_run 5 = .ok (.iload_n 1, 1) := by decide +kernel
theorem dX11_run_6 : decode cX11_run 6 = .ok (.iconst 1, 1) := by decide +kernel
theorem dX11_run_7 : decode cX11_run 7 = .ok (.sipush 20000, 3) := by decide +kernel
theorem dX11_run_10 : decode cX11_run 10 = .ok (.invokestatic 185, 3) := by decide +kernel
theorem dX11_run_13 : decode cX11_run 13 = .ok (.ifCond .ne 8, 3) := by decide +kernel
theorem dX11_run_16 : decode cX11_run 16 = .ok (.aload_n 0, 1) := by decide +kernel
theorem dX11_run_17 : decode cX11_run 17 = .ok (.invokevirtual 329, 3) := by decide +kernel
theorem dX11_run_20 : decode cX11_run 20 = .ok (.ireturn, 1) := by decide +kernel
theorem dX11_run_21 : decode cX11_run 21 = .ok (.iconst 0, 1) := by decide +kernel
theorem dX11_run_22 : decode cX11_run 22 = .ok (.istore_n 2, 1) := by decide +kernel
theorem dX11_run_23 : decode cX11_run 23 = .ok (.iconst 0, 1) := by decide +kernel
theorem dX11_run_24 : decode cX11_run 24 = .ok (.istore_n 3, 1) := by decide +kernel
theorem dX11_run_25 : decode cX11_run 25 = .ok (.iconst 1, 1) := by decide +kernel
theorem dX11_run_26 : decode cX11_run 26 = .ok (.istore 4, 2) := by decide +kernel
theorem dX11_run_28 : decode cX11_run 28 = .ok (.iload 4, 2) := by decide +kernel
theorem dX11_run_30 : decode cX11_run 30 = .ok (.ifCond .eq 35, 3) := by decide +kernel
theorem dX11_run_33 : decode cX11_run 33 = .ok (.iload_n 3, 1) := by decide +kernel
theorem dX11_run_34 : decode cX11_run 34 = .ok (.aload_n 0, 1) := by decide +kernel
theorem dX11_run_35 : decode cX11_run 35 = .ok (.invokevirtual 344, 3) := by decide +kernel
theorem dX11_run_38 : decode cX11_run 38 = .ok (.iadd, 1) := by decide +kernel
theorem dX11_run_39 : decode cX11_run 39 = .ok (.istore_n 3, 1) := by decide +kernel
theorem dX11_run_40 : decode cX11_run 40 = .ok (.iinc 2 1, 3) := by decide +kernel
theorem dX11_run_43 : decode cX11_run 43 = .ok (.iload_n 3, 1) := by decide +kernel
theorem dX11_run_44 : decode cX11_run 44 = .ok (.iload_n 1, 1) := by decide +kernel
theorem dX11_run_45 : decode cX11_run 45 = .ok (.if_icmp .ge 14, 3) := by decide +kernel
theorem dX11_run_48 : decode cX11_run 48 = .ok (.aload_n 0, 1) := by decide +kernel
theorem dX11_run_49 : decode cX11_run 49 = .ok (.invokevirtual 347, 3) := by decide +kernel
theorem dX11_run_52 : decode cX11_run 52 = .ok (.ifCond .ne 7, 3) := by decide +kernel
theorem dX11_run_55 : decode cX11_run 55 = .ok (.iconst 1, 1) := by decide +kernel
theorem dX11_run_56 : decode cX11_run 56 = .ok (.goto 4, 3) := by decide +kernel
theorem dX11_run_59 : decode cX11_run 59 = .ok (.iconst 0, 1) := by decide +kernel
theorem dX11_run_60 : decode cX11_run 60 = .ok (.istore 4, 2) := by decide +kernel
theorem dX11_run_62 : decode cX11_run 62 = .ok (.goto (-34), 3) := by decide +kernel
theorem dX11_run_65 : decode cX11_run 65 = .ok (.iload_n 2, 1) := by decide +kernel
theorem dX11_run_66 : decode cX11_run 66 = .ok (.ireturn, 1) := by decide +kernel
theorem dX11_stopAt_0 : decode cX11_stopAt 0 = .ok (.aload_n 0, 1) := by decide +kernel
theorem dX11_stopAt_1 : decode cX11_stopAt 1 = .ok (.iconst 0, 1) := by decide +kernel
theorem dX11_stopAt_2 : decode cX11_stopAt 2 = .ok (.putfield 73, 3) := by decide +kernel
theorem dX11_stopAt_5 : decode cX11_stopAt 5 = .ok (.iload_n 1, 1) := by decide +kernel
theorem dX11_stopAt_6 : decode cX11_stopAt 6 = .ok (.iconst (-1), 1) := by decide +kernel
theorem dX11_stopAt_7 : decode cX11_stopAt 7 = .ok (.if_icmp .lt 10, 3) := by decide +kernel
theorem dX11_stopAt_10 : decode cX11_stopAt 10 = .ok (.iload_n 1, 1) := by decide +kernel
theorem dX11_stopAt_11 : decode cX11_stopAt 11 = .ok (.ldc_w 350, 3) := by decide +kernel
theorem dX11_stopAt_14 : decode cX11_stopAt 14 = .ok (.if_icmp .lt 5, 3) := by decide +kernel
theorem dX11_stopAt_17 : decode cX11_stopAt 17 = .ok (.iconst 0, 1) := by decide +kernel
theorem dX11_stopAt_18 : decode cX11_stopAt 18 = .ok (.ireturn, 1) := by decide +kernel
theorem dX11_stopAt_19 : decode cX11_stopAt 19 = .ok (.aload_n 0, 1) := by decide +kernel
theorem dX11_stopAt_20 : decode cX11_stopAt 20 = .ok (.iload_n 1, 1) := by decide +kernel
theorem dX11_stopAt_21 : decode cX11_stopAt 21 = .ok (.iconst (-1), 1) := by decide +kernel
theorem dX11_stopAt_22 : decode cX11_stopAt 22 = .ok (.if_icmp .ne 7, 3) := by decide +kernel
theorem dX11_stopAt_25 : decode cX11_stopAt 25 = .ok (.iconst (-1), 1) := by decide +kernel
theorem dX11_stopAt_26 : decode cX11_stopAt 26 = .ok (.goto 7, 3) := by decide +kernel
theorem dX11_stopAt_29 : decode cX11_stopAt 29 = .ok (.iload_n 1, 1) := by decide +kernel
theorem dX11_stopAt_30 : decode cX11_stopAt 30 = .ok (.ldc 143, 2) := by decide +kernel
theorem dX11_stopAt_32 : decode cX11_stopAt 32 = .ok (.iand, 1) := by decide +kernel
theorem dX11_stopAt_33 : decode cX11_stopAt 33 = .ok (.putfield 62, 3) := by decide +kernel
theorem dX11_stopAt_36 : decode cX11_stopAt 36 = .ok (.iconst 1, 1) := by decide +kernel
theorem dX11_stopAt_37 : decode cX11_stopAt 37 = .ok (.ireturn, 1) := by decide +kernel
theorem dX11_isRegister_0 : decode cX11_isRegister 0 = .ok (.iload_n 0, 1) := by decide +kernel
theorem dX11_isRegister_1 : decode cX11_isRegister 1 = .ok (.iconst 0, 1) := by decide +kernel
theorem dX11_isRegister_2 : decode cX11_isRegister 2 = .ok (.iconst 3, 1) := by decide +kernel
theorem dX11_isRegister_3 : decode cX11_isRegister 3 = .ok (.invokestatic 185, 3) := by decide +kernel
theorem dX11_isRegister_6 : decode cX11_isRegister 6 = .ok (.ifCond .eq 17, 3) := by decide +kernel
theorem dX11_isRegister_9 : decode cX11_isRegister 9 = .ok (.iload_n 1, 1) := by decide +kernel
theorem dX11_isRegister_10 : decode cX11_isRegister 10 = .ok (.iconst 0, 1) := by decide +kernel
theorem dX11_isRegister_11 : decode cX11_isRegister 11 = .ok (.bipush 15, 2) := by decide +kernel
theorem dX11_isRegister_13 : decode cX11_isRegister 13 = .ok (.invokestatic 185, 3) := by decide +kernel
theorem dX11_isRegister_16 : decode cX11_isRegister 16 = .ok (.ifCond .eq 7, 3) := by decide +kernel
theorem dX11_isRegister_19 : decode cX11_isRegister 19 = .ok (.iconst 1, 1) := by decide +kernel
theorem dX11_isRegister_20 : decode cX11_isRegister 20 = .ok (.goto 4, 3) := by decide +kernel
theorem dX11_isRegister_23 : decode cX11_isRegister 23 = .ok (.iconst 0, 1) := by decide +kernel
theorem dX11_isRegister_24 : decode cX11_isRegister 24 = .ok (.ireturn, 1) := by decide +kernel
theorem dX11_register_0 : decode cX11_register 0 = .ok (.aload_n 0, 1) := by decide +kernel
theorem dX11_register_1 : decode cX11_register 1 = .ok (.iconst 0, 1) := by decide +kernel
theorem dX11_register_2 : decode cX11_register 2 = .ok (.putfield 73, 3) := by decide +kernel
theorem dX11_register_5 : decode cX11_register 5 = .ok (.iload_n 1, 1) := by decide +kernel
theorem dX11_register_6 : decode cX11_register 6 = .ok (.iload_n 2, 1) := by decide +kernel
theorem dX11_register_7 : decode cX11_register 7 = .ok (.invokestatic 351, 3) := by decide +kernel
theorem dX11_register_10 : decode cX11_register 10 = .ok (.ifCond .eq 12, 3) := by decide +kernel
theorem dX11_register_13 : decode cX11_register 13 = .ok (.aload_n 0, 1) := by decide +kernel
theorem dX11_register_14 : decode cX11_register 14 = .ok (.iload_n 1, 1) := by decide +kernel
theorem dX11_register_15 : decode cX11_register 15 = .ok (.iload_n 2, 1) := by decide +kernel
theorem dX11_register_16 : decode cX11_register 16 = .ok (.invokevirtual 152, 3) := by decide +kernel
theorem dX11_register_19 : decode cX11_register 19 = .ok (.goto 7, 3) := by decide +kernel
theorem dX11_register_22 : decode cX11_register 22 = .ok (.aload_n 0, 1) := by decide +kernel
theorem dX11_register_23 : decode cX11_register 23 = .ok (.invokevirtual 329, 3) := by decide +kernel
theorem dX11_register_26 : decode cX11_register 26 = .ok (.ireturn, 1) := by decide +kernel
theorem dX11_put_0 : decode cX11_put 0 = .ok (.aload_n 0, 1) := by decide +kernel
theorem dX11_put_1 : decode cX11_put 1 = .ok (.iconst 0, 1) := by decide +kernel
theorem dX11_put_2 : decode cX11_put 2 = .ok (.putfield 73, 3) := by decide +kernel
theorem dX11_put_5 : decode cX11_put 5 = .ok (.iload_n 1, 1) := by decide +kernel
theorem dX11_put_6 : decode cX11_put 6 = .ok (.iload_n 2, 1) := by decide +kernel
theorem dX11_put_7 : decode cX11_put 7 = .ok (.invokestatic 351, 3) := by decide +kernel
theorem dX11_put_10 : decode cX11_put 10 = .ok (.ifCond .ne 5, 3) := by decide +kernel
theorem dX11_put_13 : decode cX11_put 13 = .ok (.iconst 0, 1) := by decide +kernel
theorem dX11_put_14 : decode cX11_put 14 = .ok (.ireturn, 1) := by decide +kernel
theorem dX11_put_15 : decode cX11_put 15 = .ok (.aload_n 0, 1) := by decide +kernel
theorem dX11_put_16 : decode cX11_put 16 = .ok (.iload_n 1, 1) := by decide +kernel
theorem dX11_put_17 : decode cX11_put 17 = .ok (.iload_n 2, 1) := by decide +kernel
theorem dX11_put_18 : decode cX11_put 18 = .ok (.iload_n 3, 1) := by decide +kernel
theorem dX11_put_19 : decode cX11_put 19 = .ok (.invokevirtual 235, 3) := by decide +kernel
theorem dX11_put_22 : decode cX11_put 22 = .ok (.iconst 1, 1) := by decide +kernel
theorem dX11_put_23 : decode cX11_put 23 = .ok (.ireturn, 1) := by decide +kernel
theorem dX11_entry_0 : decode cX11_entry 0 = .ok (.aload_n 0, 1) := by decide +kernel
theorem dX11_entry_1 : decode cX11_entry 1 = .ok (.iconst 0, 1) := by decide +kernel
theorem dX11_entry_2 : decode cX11_entry 2 = .ok (.putfield 73, 3) := by decide +kernel
theorem dX11_entry_5 : decode cX11_entry 5 = .ok (.iload_n 1, 1) := by decide +kernel
theorem dX11_entry_6 : decode cX11_entry 6 = .ok (.iconst 0, 1) := by decide +kernel
theorem dX11_entry_7 : decode cX11_entry 7 = .ok (.bipush 15, 2) := by decide +kernel
theorem dX11_entry_9 : decode cX11_entry 9 = .ok (.invokestatic 185, 3) := by decide +kernel
theorem dX11_entry_12 : decode cX11_entry 12 = .ok (.ifCond .eq 12, 3) := by decide +kernel
theorem dX11_entry_15 : decode cX11_entry 15 = .ok (.iload_n 2, 1) := by decide +kernel
theorem dX11_entry_16 : decode cX11_entry 16 = .ok (.iconst 0, 1) := by decide +kernel
theorem dX11_entry_17 : decode cX11_entry 17 = .ok (.iconst 1, 1) := by decide +kernel
theorem dX11_entry_18 : decode cX11_entry 18 = .ok (.invokestatic 185, 3) := by decide +kernel
theorem dX11_entry_21 : decode cX11_entry 21 = .ok (.ifCond .ne 5, 3) := by decide +kernel
theorem dX11_entry_24 : decode cX11_entry 24 = .ok (.iconst (-1), 1) := by decide +kernel
theorem dX11_entry_25 : decode cX11_entry 25 = .ok (.ireturn, 1) := by decide +kernel
theorem dX11_entry_26 : decode cX11_entry 26 = .ok (.iload_n 2, 1) := by decide +kernel
theorem dX11_entry_27 : decode cX11_entry 27 = .ok (.ifCond .ne 12, 3) := by decide +kernel
theorem dX11_entry_30 : decode cX11_entry 30 = .ok (.aload_n 0, 1) := by decide +kernel
theorem dX11_entry_31 : decode cX11_entry 31 = .ok (.getfield 31, 3) := by decide +kernel
theorem dX11_entry_34 : decode cX11_entry 34 = .ok (.iload_n 1, 1) := by decide +kernel
theorem dX11_entry_35 : decode cX11_entry 35 = .ok (.iaload, 1) := by decide +kernel
theorem dX11_entry_36 : decode cX11_entry 36 = .ok (.goto 9, 3) := by decide +kernel
theorem dX11_entry_39 : decode cX11_entry 39 = .ok (.aload_n 0, 1) := by decide +kernel
theorem dX11_entry_40 : decode cX11_entry 40 = .ok (.getfield 34, 3) := by decide +kernel
theorem dX11_entry_43 : decode cX11_entry 43 = .ok (.iload_n 1, 1) := by decide +kernel
theorem dX11_entry_44 : decode cX11_entry 44 = .ok (.iaload, 1) := by decide +kernel
theorem dX11_entry_45 : decode cX11_entry 45 = .ok (.ireturn, 1) := by decide +kernel
theorem dX11_device_0 : decode cX11_device 0 = .ok (.aload_n 0, 1) := by decide +kernel
theorem dX11_device_1 : decode cX11_device 1 = .ok (.iconst 0, 1) := by decide +kernel
theorem dX11_device_2 : decode cX11_device 2 = .ok (.putfield 73, 3) := by decide +kernel
theorem dX11_device_5 : decode cX11_device 5 = .ok (.iload_n 1, 1) := by decide +kernel
theorem dX11_device_6 : decode cX11_device 6 = .ok (.iconst 0, 1) := by decide +kernel
theorem dX11_device_7 : decode cX11_device 7 = .ok (.ldc 164, 2) := by decide +kernel
theorem dX11_device_9 : decode cX11_device 9 = .ok (.invokestatic 185, 3) := by decide +kernel
theorem dX11_device_12 : decode cX11_device 12 = .ok (.ifCond .eq 11, 3) := by decide +kernel
theorem dX11_device_15 : decode cX11_device 15 = .ok (.aload_n 0, 1) := by decide +kernel
theorem dX11_device_16 : decode cX11_device 16 = .ok (.iload_n 1, 1) := by decide +kernel
theorem dX11_device_17 : decode cX11_device 17 = .ok (.invokevirtual 165, 3) := by decide +kernel
theorem dX11_device_20 : decode cX11_device 20 = .ok (.goto 4, 3) := by decide +kernel
theorem dX11_device_23 : decode cX11_device 23 = .ok (.iconst (-1), 1) := by decide +kernel
theorem dX11_device_24 : decode cX11_device 24 = .ok (.ireturn, 1) := by decide +kernel
theorem dX11_allowed_0 : decode cX11_allowed 0 = .ok (.aload_n 0, 1) := by decide +kernel
theorem dX11_allowed_1 : decode cX11_allowed 1 = .ok (.iconst 0, 1) := by decide +kernel
theorem dX11_allowed_2 : decode cX11_allowed 2 = .ok (.putfield 73, 3) := by decide +kernel
theorem dX11_allowed_5 : decode cX11_allowed 5 = .ok (.iload_n 1, 1) := by decide +kernel
theorem dX11_allowed_6 : decode cX11_allowed 6 = .ok (.iconst 0, 1) := by decide +kernel
theorem dX11_allowed_7 : decode cX11_allowed 7 = .ok (.iconst 3, 1) := by decide +kernel
theorem dX11_allowed_8 : decode cX11_allowed 8 = .ok (.invokestatic 185, 3) := by decide +kernel
theorem dX11_allowed_11 : decode cX11_allowed 11 = .ok (.ifCond .eq 23, 3) := by decide +kernel
theorem dX11_allowed_14 : decode cX11_allowed 14 = .ok (.iload_n 2, 1) := by decide +kernel
theorem dX11_allowed_15 : decode cX11_allowed 15 = .ok (.iconst 0, 1) := by decide +kernel
theorem dX11_allowed_16 : decode cX11_allowed 16 = .ok (.ldc_w 354, 3) := by decide +kernel
theorem dX11_allowed_19 : decode cX11_allowed 19 = .ok (.invokestatic 185, 3) := by decide +kernel
theorem dX11_allowed_22 : decode cX11_allowed 22 = .ok (.ifCond .eq 12, 3) := by decide +kernel
theorem dX11_allowed_25 : decode cX11_allowed 25 = .ok (.iload_n 3, 1) := by decide +kernel
theorem dX11_allowed_26 : decode cX11_allowed 26 = .ok (.iconst 0, 1) := by decide +kernel
theorem dX11_allowed_27 : decode cX11_allowed 27 = .ok (.iconst 1, 1) := by decide +kernel
theorem dX11_allowed_28 : decode cX11_allowed 28 = .ok (.invokestatic 185, 3) := by decide +kernel
theorem dX11_allowed_31 : decode cX11_allowed 31 = .ok (.ifCond .ne 5, 3) := by decide +kernel
theorem dX11_allowed_34 : decode cX11_allowed 34 = .ok (.iconst (-1), 1) := by decide +kernel
theorem dX11_allowed_35 : decode cX11_allowed 35 = .ok (.ireturn, 1) := by decide +kernel
theorem dX11_allowed_36 : decode cX11_allowed 36 = .ok (.aload_n 0, 1) := by decide +kernel
theorem dX11_allowed_37 : decode cX11_allowed 37 = .ok (.iload_n 1, 1) := by decide +kernel
theorem dX11_allowed_38 : decode cX11_allowed 38 = .ok (.iload_n 2, 1) := by decide +kernel
theorem dX11_allowed_39 : decode cX11_allowed 39 = .ok (.iload_n 3, 1) := by decide +kernel
theorem dX11_allowed_40 : decode cX11_allowed 40 = .ok (.iconst 1, 1) := by decide +kernel
theorem dX11_allowed_41 : decode cX11_allowed 41 = .ok (.if_icmp .ne 7, 3) := by decide +kernel
theorem dX11_allowed_44 : decode cX11_allowed 44 = .ok (.iconst 1, 1) := by decide +kernel
theorem dX11_allowed_45 : decode cX11_allowed 45 = .ok (.goto 4, 3) := by decide +kernel
theorem dX11_allowed_48 : decode cX11_allowed 48 = .ok (.iconst 0, 1) := by decide +kernel
theorem dX11_allowed_49 : decode cX11_allowed 49 = .ok (.invokevirtual 253, 3) := by decide +kernel
theorem dX11_allowed_52 : decode cX11_allowed 52 = .ok (.ifCond .eq 7, 3) := by decide +kernel
theorem dX11_allowed_55 : decode cX11_allowed 55 = .ok (.iconst 1, 1) := by decide +kernel
theorem dX11_allowed_56 : decode cX11_allowed 56 = .ok (.goto 4, 3) := by decide +kernel
theorem dX11_allowed_59 : decode cX11_allowed 59 = .ok (.iconst 0, 1) := by decide +kernel
theorem dX11_allowed_60 : decode cX11_allowed 60 = .ok (.ireturn, 1) := by decide +kernel
theorem dX11_count_0 : decode cX11_count 0 = .ok (.aload_n 0, 1) := by decide +kernel
theorem dX11_count_1 : decode cX11_count 1 = .ok (.iconst 0, 1) := by decide +kernel
theorem dX11_count_2 : decode cX11_count 2 = .ok (.putfield 73, 3) := by decide +kernel
theorem dX11_count_5 : decode cX11_count 5 = .ok (.iload_n 1, 1) := by decide +kernel
theorem dX11_count_6 : decode cX11_count 6 = .ok (.iconst 2, 1) := by decide +kernel
theorem dX11_count_7 : decode cX11_count 7 = .ok (.bipush 8, 2) := by decide +kernel
theorem dX11_count_9 : decode cX11_count 9 = .ok (.invokestatic 185, 3) := by decide +kernel
theorem dX11_count_12 : decode cX11_count 12 = .ok (.ifCond .eq 12, 3) := by decide +kernel
theorem dX11_count_15 : decode cX11_count 15 = .ok (.aload_n 0, 1) := by decide +kernel
theorem dX11_count_16 : decode cX11_count 16 = .ok (.getfield 66, 3) := by decide +kernel
theorem dX11_count_19 : decode cX11_count 19 = .ok (.iload_n 1, 1) := by decide +kernel
theorem dX11_count_20 : decode cX11_count 20 = .ok (.iconst 2, 1) := by decide +kernel
theorem dX11_count_21 : decode cX11_count 21 = .ok (.isub, 1) := by decide +kernel
theorem dX11_count_22 : decode cX11_count 22 = .ok (.laload, 1) := by decide +kernel
theorem dX11_count_23 : decode cX11_count 23 = .ok (.lreturn, 1) := by decide +kernel
theorem dX11_count_24 : decode cX11_count 24 = .ok (.iload_n 1, 1) := by decide +kernel
theorem dX11_count_25 : decode cX11_count 25 = .ok (.tableswitch 97 0 12 #[67, 72, 97, 97, 97, 97, 97, 97, 97, 77, 82, 87, 92], 67) := by decide +kernel
theorem dX11_count_92 : decode cX11_count 92 = .ok (.aload_n 0, 1) := by decide +kernel
theorem dX11_count_93 : decode cX11_count 93 = .ok (.getfield 214, 3) := by decide +kernel
theorem dX11_count_96 : decode cX11_count 96 = .ok (.lreturn, 1) := by decide +kernel
theorem dX11_count_97 : decode cX11_count 97 = .ok (.aload_n 0, 1) := by decide +kernel
theorem dX11_count_98 : decode cX11_count 98 = .ok (.getfield 338, 3) := by decide +kernel
theorem dX11_count_101 : decode cX11_count 101 = .ok (.lreturn, 1) := by decide +kernel
theorem dX11_count_102 : decode cX11_count 102 = .ok (.aload_n 0, 1) := by decide +kernel
theorem dX11_count_103 : decode cX11_count 103 = .ok (.getfield 228, 3) := by decide +kernel
theorem dX11_count_106 : decode cX11_count 106 = .ok (.lreturn, 1) := by decide +kernel
theorem dX11_count_107 : decode cX11_count 107 = .ok (.aload_n 0, 1) := by decide +kernel
theorem dX11_count_108 : decode cX11_count 108 = .ok (.getfield 266, 3) := by decide +kernel
theorem dX11_count_111 : decode cX11_count 111 = .ok (.lreturn, 1) := by decide +kernel
theorem dX11_count_112 : decode cX11_count 112 = .ok (.aload_n 0, 1) := by decide +kernel
theorem dX11_count_113 : decode cX11_count 113 = .ok (.getfield 209, 3) := by decide +kernel
theorem dX11_count_116 : decode cX11_count 116 = .ok (.lreturn, 1) := by decide +kernel
theorem dX11_count_117 : decode cX11_count 117 = .ok (.aload_n 0, 1) := by decide +kernel
theorem dX11_count_118 : decode cX11_count 118 = .ok (.getfield 197, 3) := by decide +kernel
theorem dX11_count_121 : decode cX11_count 121 = .ok (.lreturn, 1) := by decide +kernel
theorem dX11_count_122 : decode cX11_count 122 = .ok (.ldc2_w 355, 3) := by decide +kernel
theorem dX11_count_125 : decode cX11_count 125 = .ok (.lreturn, 1) := by decide +kernel
theorem dX11_look_0 : decode cX11_look 0 = .ok (.aload_n 0, 1) := by decide +kernel
theorem dX11_look_1 : decode cX11_look 1 = .ok (.iconst 0, 1) := by decide +kernel
theorem dX11_look_2 : decode cX11_look 2 = .ok (.putfield 73, 3) := by decide +kernel
theorem dX11_look_5 : decode cX11_look 5 = .ok (.iload_n 1, 1) := by decide +kernel
theorem dX11_look_6 : decode cX11_look 6 = .ok (.bipush 16, 2) := by decide +kernel
theorem dX11_look_8 : decode cX11_look 8 = .ok (.bipush 31, 2) := by decide +kernel
theorem dX11_look_10 : decode cX11_look 10 = .ok (.invokestatic 185, 3) := by decide +kernel
theorem dX11_look_13 : decode cX11_look 13 = .ok (.ifCond .eq 13, 3) := by decide +kernel
theorem dX11_look_16 : decode cX11_look 16 = .ok (.aload_n 0, 1) := by decide +kernel
theorem dX11_look_17 : decode cX11_look 17 = .ok (.getfield 37, 3) := by decide +kernel
theorem dX11_look_20 : decode cX11_look 20 = .ok (.iload_n 1, 1) := by decide +kernel
theorem dX11_look_21 : decode cX11_look 21 = .ok (.bipush 16, 2) := by decide +kernel
theorem dX11_look_23 : decode cX11_look 23 = .ok (.isub, 1) := by decide +kernel
theorem dX11_look_24 : decode cX11_look 24 = .ok (.iaload, 1) := by decide +kernel
theorem dX11_look_25 : decode cX11_look 25 = .ok (.ireturn, 1) := by decide +kernel
theorem dX11_look_26 : decode cX11_look 26 = .ok (.iload_n 1, 1) := by decide +kernel
theorem dX11_look_27 : decode cX11_look 27 = .ok (.tableswitch 158 0 13 #[69, 74, 79, 84, 84, 84, 93, 98, 98, 108, 113, 118, 132, 145], 69) := by decide +kernel
theorem dX11_look_96 : decode cX11_look 96 = .ok (.aload_n 0, 1) := by decide +kernel
theorem dX11_look_97 : decode cX11_look 97 = .ok (.getfield 83, 3) := by decide +kernel
theorem dX11_look_100 : decode cX11_look 100 = .ok (.ireturn, 1) := by decide +kernel
theorem dX11_look_101 : decode cX11_look 101 = .ok (.aload_n 0, 1) := by decide +kernel
theorem dX11_look_102 : decode cX11_look 102 = .ok (.getfield 86, 3) := by decide +kernel
theorem dX11_look_105 : decode cX11_look 105 = .ok (.ireturn, 1) := by decide +kernel
theorem dX11_look_106 : decode cX11_look 106 = .ok (.aload_n 0, 1) := by decide +kernel
theorem dX11_look_107 : decode cX11_look 107 = .ok (.getfield 89, 3) := by decide +kernel
theorem dX11_look_110 : decode cX11_look 110 = .ok (.ireturn, 1) := by decide +kernel
theorem dX11_look_111 : decode cX11_look 111 = .ok (.aload_n 0, 1) := by decide +kernel
theorem dX11_look_112 : decode cX11_look 112 = .ok (.getfield 40, 3) := by decide +kernel
theorem dX11_look_115 : decode cX11_look 115 = .ok (.iload_n 1, 1) := by decide +kernel
theorem dX11_look_116 : decode cX11_look 116 = .ok (.iconst 3, 1) := by decide +kernel
theorem dX11_look_117 : decode cX11_look 117 = .ok (.isub, 1) := by decide +kernel
theorem dX11_look_118 : decode cX11_look 118 = .ok (.iaload, 1) := by decide +kernel
theorem dX11_look_119 : decode cX11_look 119 = .ok (.ireturn, 1) := by decide +kernel
theorem dX11_look_120 : decode cX11_look 120 = .ok (.aload_n 0, 1) := by decide +kernel
theorem dX11_look_121 : decode cX11_look 121 = .ok (.getfield 80, 3) := by decide +kernel
theorem dX11_look_124 : decode cX11_look 124 = .ok (.ireturn, 1) := by decide +kernel
theorem dX11_look_125 : decode cX11_look 125 = .ok (.aload_n 0, 1) := by decide +kernel
theorem dX11_look_126 : decode cX11_look 126 = .ok (.getfield 52, 3) := by decide +kernel
theorem dX11_look_129 : decode cX11_look 129 = .ok (.iload_n 1, 1) := by decide +kernel
theorem dX11_look_130 : decode cX11_look 130 = .ok (.bipush 7, 2) := by decide +kernel
theorem dX11_look_132 : decode cX11_look 132 = .ok (.isub, 1) := by decide +kernel
theorem dX11_look_133 : decode cX11_look 133 = .ok (.iaload, 1) := by decide +kernel
theorem dX11_look_134 : decode cX11_look 134 = .ok (.ireturn, 1) := by decide +kernel
theorem dX11_look_135 : decode cX11_look 135 = .ok (.aload_n 0, 1) := by decide +kernel
theorem dX11_look_136 : decode cX11_look 136 = .ok (.getfield 124, 3) := by decide +kernel
theorem dX11_look_139 : decode cX11_look 139 = .ok (.ireturn, 1) := by decide +kernel
theorem dX11_look_140 : decode cX11_look 140 = .ok (.aload_n 0, 1) := by decide +kernel
theorem dX11_look_141 : decode cX11_look 141 = .ok (.getfield 115, 3) := by decide +kernel
theorem dX11_look_144 : decode cX11_look 144 = .ok (.ireturn, 1) := by decide +kernel
theorem dX11_look_145 : decode cX11_look 145 = .ok (.sipush 20000, 3) := by decide +kernel
theorem dX11_look_148 : decode cX11_look 148 = .ok (.aload_n 0, 1) := by decide +kernel
theorem dX11_look_149 : decode cX11_look 149 = .ok (.getfield 92, 3) := by decide +kernel
theorem dX11_look_152 : decode cX11_look 152 = .ok (.ldc2_w 223, 3) := by decide +kernel
theorem dX11_look_155 : decode cX11_look 155 = .ok (.lrem, 1) := by decide +kernel
theorem dX11_look_156 : decode cX11_look 156 = .ok (.l2i, 1) := by decide +kernel
theorem dX11_look_157 : decode cX11_look 157 = .ok (.isub, 1) := by decide +kernel
theorem dX11_look_158 : decode cX11_look 158 = .ok (.ireturn, 1) := by decide +kernel
theorem dX11_look_159 : decode cX11_look 159 = .ok (.aload_n 0, 1) := by decide +kernel
theorem dX11_look_160 : decode cX11_look 160 = .ok (.invokevirtual 250, 3) := by decide +kernel
theorem dX11_look_163 : decode cX11_look 163 = .ok (.ifCond .eq 7, 3) := by decide +kernel
theorem dX11_look_166 : decode cX11_look 166 = .ok (.iconst 1, 1) := by decide +kernel
theorem dX11_look_167 : decode cX11_look 167 = .ok (.goto 4, 3) := by decide +kernel
theorem dX11_look_170 : decode cX11_look 170 = .ok (.iconst 0, 1) := by decide +kernel
theorem dX11_look_171 : decode cX11_look 171 = .ok (.ireturn, 1) := by decide +kernel
theorem dX11_look_172 : decode cX11_look 172 = .ok (.aload_n 0, 1) := by decide +kernel
theorem dX11_look_173 : decode cX11_look 173 = .ok (.invokevirtual 246, 3) := by decide +kernel
theorem dX11_look_176 : decode cX11_look 176 = .ok (.ifCond .eq 7, 3) := by decide +kernel
theorem dX11_look_179 : decode cX11_look 179 = .ok (.iconst 1, 1) := by decide +kernel
theorem dX11_look_180 : decode cX11_look 180 = .ok (.goto 4, 3) := by decide +kernel
theorem dX11_look_183 : decode cX11_look 183 = .ok (.iconst 0, 1) := by decide +kernel
theorem dX11_look_184 : decode cX11_look 184 = .ok (.ireturn, 1) := by decide +kernel
theorem dX11_look_185 : decode cX11_look 185 = .ok (.iconst (-1), 1) := by decide +kernel
theorem dX11_look_186 : decode cX11_look 186 = .ok (.ireturn, 1) := by decide +kernel
theorem dX11_place_0 : decode cX11_place 0 = .ok (.aload_n 0, 1) := by decide +kernel
theorem dX11_place_1 : decode cX11_place 1 = .ok (.iconst 0, 1) := by decide +kernel
theorem dX11_place_2 : decode cX11_place 2 = .ok (.putfield 73, 3) := by decide +kernel
theorem dX11_place_5 : decode cX11_place 5 = .ok (.iload_n 1, 1) := by decide +kernel
theorem dX11_place_6 : decode cX11_place 6 = .ok (.iconst 0, 1) := by decide +kernel
theorem dX11_place_7 : decode cX11_place 7 = .ok (.bipush 63, 2) := by decide +kernel
theorem dX11_place_9 : decode cX11_place 9 = .ok (.invokestatic 185, 3) := by decide +kernel
theorem dX11_place_12 : decode cX11_place 12 = .ok (.ifCond .eq 27, 3) := by decide +kernel
theorem dX11_place_15 : decode cX11_place 15 = .ok (.iload_n 2, 1) := by decide +kernel
theorem dX11_place_16 : decode cX11_place 16 = .ok (.iconst 0, 1) := by decide +kernel
theorem dX11_place_17 : decode cX11_place 17 = .ok (.bipush 31, 2) := by decide +kernel
theorem dX11_place_19 : decode cX11_place 19 = .ok (.invokestatic 185, 3) := by decide +kernel
theorem dX11_place_22 : decode cX11_place 22 = .ok (.ifCond .eq 17, 3) := by decide +kernel
theorem dX11_place_25 : decode cX11_place 25 = .ok (.aload_n 0, 1) := by decide +kernel
theorem dX11_place_26 : decode cX11_place 26 = .ok (.getfield 43, 3) := by decide +kernel
theorem dX11_place_29 : decode cX11_place 29 = .ok (.bipush 64, 2) := by decide +kernel
theorem dX11_place_31 : decode cX11_place 31 = .ok (.iload_n 2, 1) := by decide +kernel
theorem dX11_place_32 : decode cX11_place 32 = .ok (.imul, 1) := by decide +kernel
theorem dX11_place_33 : decode cX11_place 33 = .ok (.iload_n 1, 1) := by decide +kernel
theorem dX11_place_34 : decode cX11_place 34 = .ok (.iadd, 1) := by decide +kernel
theorem dX11_place_35 : decode cX11_place 35 = .ok (.iaload, 1) := by decide +kernel
theorem dX11_place_36 : decode cX11_place 36 = .ok (.goto 4, 3) := by decide +kernel
theorem dX11_place_39 : decode cX11_place 39 = .ok (.iconst (-1), 1) := by decide +kernel
theorem dX11_place_40 : decode cX11_place 40 = .ok (.ireturn, 1) := by decide +kernel
theorem dX11_letter_0 : decode cX11_letter 0 = .ok (.aload_n 0, 1) := by decide +kernel
theorem dX11_letter_1 : decode cX11_letter 1 = .ok (.iconst 0, 1) := by decide +kernel
theorem dX11_letter_2 : decode cX11_letter 2 = .ok (.putfield 73, 3) := by decide +kernel
theorem dX11_letter_5 : decode cX11_letter 5 = .ok (.aload_n 0, 1) := by decide +kernel
theorem dX11_letter_6 : decode cX11_letter 6 = .ok (.getfield 197, 3) := by decide +kernel
theorem dX11_letter_9 : decode cX11_letter 9 = .ok (.ldc2_w 200, 3) := by decide +kernel
theorem dX11_letter_12 : decode cX11_letter 12 = .ok (.lcmp, 1) := by decide +kernel
theorem dX11_letter_13 : decode cX11_letter 13 = .ok (.ifCond .le 14, 3) := by decide +kernel
theorem dX11_letter_16 : decode cX11_letter 16 = .ok (.aload_n 0, 1) := by decide +kernel
theorem dX11_letter_17 : decode cX11_letter 17 = .ok (.getfield 197, 3) := by decide +kernel
theorem dX11_letter_20 : decode cX11_letter 20 = .ok (.ldc2_w 200, 3) := by decide +kernel
theorem dX11_letter_23 : decode cX11_letter 23 = .ok (.lsub, 1) := by decide +kernel
theorem dX11_letter_24 : decode cX11_letter 24 = .ok (.goto 4, 3) := by decide +kernel
theorem dX11_letter_27 : decode cX11_letter 27 = .ok (.lconst 0, 1) := by decide +kernel
theorem dX11_letter_28 : decode cX11_letter 28 = .ok (.lstore_n 2, 1) := by decide +kernel
theorem dX11_letter_29 : decode cX11_letter 29 = .ok (.iload_n 1, 1) := by decide +kernel
theorem dX11_letter_30 : decode cX11_letter 30 = .ok (.ifCond .lt 36, 3) := by decide +kernel
theorem dX11_letter_33 : decode cX11_letter 33 = .ok (.lload_n 2, 1) := by decide +kernel
theorem dX11_letter_34 : decode cX11_letter 34 = .ok (.iload_n 1, 1) := by decide +kernel
theorem dX11_letter_35 : decode cX11_letter 35 = .ok (.i2l, 1) := by decide +kernel
theorem dX11_letter_36 : decode cX11_letter 36 = .ok (.ladd, 1) := by decide +kernel
theorem dX11_letter_37 : decode cX11_letter 37 = .ok (.aload_n 0, 1) := by decide +kernel
theorem dX11_letter_38 : decode cX11_letter 38 = .ok (.getfield 197, 3) := by decide +kernel
theorem dX11_letter_41 : decode cX11_letter 41 = .ok (.lcmp, 1) := by decide +kernel
theorem dX11_letter_42 : decode cX11_letter 42 = .ok (.ifCond .ge 24, 3) := by decide +kernel
theorem dX11_letter_45 : decode cX11_letter 45 = .ok (.aload_n 0, 1) := by decide +kernel
theorem dX11_letter_46 : decode cX11_letter 46 = .ok (.getfield 58, 3) := by decide +kernel
theorem dX11_letter_49 : decode cX11_letter 49 = .ok (.lload_n 2, 1) := by decide +kernel
theorem dX11_letter_50 : decode cX11_letter 50 = .ok (.iload_n 1, 1) := by decide +kernel
theorem dX11_letter_51 : decode cX11_letter 51 = .ok (.i2l, 1) := by decide +kernel
theorem dX11_letter_52 : decode cX11_letter 52 = .ok (.ladd, 1) := by decide +kernel
theorem dX11_letter_53 : decode cX11_letter 53 = .ok (.ldc2_w 200, 3) := by decide +kernel
theorem dX11_letter_56 : decode cX11_letter 56 = .ok (.lrem, 1) := by decide +kernel
theorem dX11_letter_57 : decode cX11_letter 57 = .ok (.l2i, 1) := by decide +kernel
theorem dX11_letter_58 : decode cX11_letter 58 = .ok (.baload, 1) := by decide +kernel
theorem dX11_letter_59 : decode cX11_letter 59 = .ok (.sipush 255, 3) := by decide +kernel
theorem dX11_letter_62 : decode cX11_letter 62 = .ok (.iand, 1) := by decide +kernel
theorem dX11_letter_63 : decode cX11_letter 63 = .ok (.goto 4, 3) := by decide +kernel
theorem dX11_letter_66 : decode cX11_letter 66 = .ok (.iconst (-1), 1) := by decide +kernel
theorem dX11_letter_67 : decode cX11_letter 67 = .ok (.ireturn, 1) := by decide +kernel
