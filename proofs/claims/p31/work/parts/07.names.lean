theorem dL_acts_98 : decode cL_acts 98 = .ok (.goto 4, 3) := by decide +kernel
theorem dL_acts_101 : decode cL_acts 101 = .ok (.iconst 5, 1) := by decide +kernel
theorem dL_acts_102 : decode cL_acts 102 = .ok (.invokestatic 72, 3) := by decide +kernel
theorem dL_acts_105 : decode cL_acts 105 = .ok (.ireturn, 1) := by decide +kernel
theorem dL_acts_106 : decode cL_acts 106 = .ok (.iload 7, 2) := by decide +kernel
theorem dL_acts_108 : decode cL_acts 108 = .ok (.aload_n 1, 1) := by decide +kernel
theorem dL_acts_109 : decode cL_acts 109 = .ok (.iconst 0, 1) := by decide +kernel
theorem dL_acts_110 : decode cL_acts 110 = .ok (.iaload, 1) := by decide +kernel
theorem dL_acts_111 : decode cL_acts 111 = .ok (.irem, 1) := by decide +kernel
theorem dL_acts_112 : decode cL_acts 112 = .ok (.istore 9, 2) := by decide +kernel
theorem dL_acts_114 : decode cL_acts 114 = .ok (.iload 8, 2) := by decide +kernel
theorem dL_acts_116 : decode cL_acts 116 = .ok (.bipush 17, 2) := by decide +kernel
theorem dL_acts_118 : decode cL_acts 118 = .ok (.if_icmp .ge 122, 3) := by decide +kernel
theorem dL_acts_121 : decode cL_acts 121 = .ok (.aload_n 1, 1) := by decide +kernel
theorem dL_acts_122 : decode cL_acts 122 = .ok (.iconst 2, 1) := by decide +kernel
theorem dL_acts_123 : decode cL_acts 123 = .ok (.iaload, 1) := by decide +kernel
theorem dL_acts_124 : decode cL_acts 124 = .ok (.iload 7, 2) := by decide +kernel
theorem dL_acts_126 : decode cL_acts 126 = .ok (.bipush 8, 2) := by decide +kernel
theorem dL_acts_128 : decode cL_acts 128 = .ok (.idiv, 1) := by decide +kernel
theorem dL_acts_129 : decode cL_acts 129 = .ok (.bipush 25, 2) := by decide +kernel
theorem dL_acts_131 : decode cL_acts 131 = .ok (.irem, 1) := by decide +kernel
theorem dL_acts_132 : decode cL_acts 132 = .ok (.iadd, 1) := by decide +kernel
theorem dL_acts_133 : decode cL_acts 133 = .ok (.istore 10, 2) := by decide +kernel
theorem dL_acts_135 : decode cL_acts 135 = .ok (.iconst 1, 1) := by decide +kernel
theorem dL_acts_136 : decode cL_acts 136 = .ok (.iload 7, 2) := by decide +kernel
theorem dL_acts_138 : decode cL_acts 138 = .ok (.sipush 200, 3) := by decide +kernel
theorem dL_acts_141 : decode cL_acts 141 = .ok (.idiv, 1) := by decide +kernel
theorem dL_acts_142 : decode cL_acts 142 = .ok (.bipush 9, 2) := by decide +kernel
theorem dL_acts_144 : decode cL_acts 144 = .ok (.irem, 1) := by decide +kernel
theorem dL_acts_145 : decode cL_acts 145 = .ok (.iadd, 1) := by decide +kernel
theorem dL_acts_146 : decode cL_acts 146 = .ok (.istore 11, 2) := by decide +kernel
theorem dL_acts_148 : decode cL_acts 148 = .ok (.aload_n 1, 1) := by decide +kernel
theorem dL_acts_149 : decode cL_acts 149 = .ok (.iconst 1, 1) := by decide +kernel
theorem dL_acts_150 : decode cL_acts 150 = .ok (.iaload, 1) := by decide +kernel
theorem dL_acts_151 : decode cL_acts 151 = .ok (.bipush 12, 2) := by decide +kernel
theorem dL_acts_153 : decode cL_acts 153 = .ok (.if_icmp .ne 24, 3) := by decide +kernel
theorem dL_acts_156 : decode cL_acts 156 = .ok (.aload_n 0, 1) := by decide +kernel
theorem dL_acts_157 : decode cL_acts 157 = .ok (.iload 9, 2) := by decide +kernel
theorem dL_acts_159 : decode cL_acts 159 = .ok (.iload 10, 2) := by decide +kernel
theorem dL_acts_161 : decode cL_acts 161 = .ok (.iload 11, 2) := by decide +kernel
theorem dL_acts_163 : decode cL_acts 163 = .ok (.invokevirtual 76, 3) := by decide +kernel
theorem dL_acts_166 : decode cL_acts 166 = .ok (.bipush (-3), 2) := by decide +kernel
theorem dL_acts_168 : decode cL_acts 168 = .ok (.if_icmp .ne 7, 3) := by decide +kernel
theorem dL_acts_171 : decode cL_acts 171 = .ok (.iconst 1, 1) := by decide +kernel
theorem dL_acts_172 : decode cL_acts 172 = .ok (.goto 4, 3) := by decide +kernel
theorem dL_acts_175 : decode cL_acts 175 = .ok (.iconst 0, 1) := by decide +kernel
theorem dL_acts_176 : decode cL_acts 176 = .ok (.ireturn, 1) := by decide +kernel
theorem dL_acts_177 : decode cL_acts 177 = .ok (.aload 5, 2) := by decide +kernel
theorem dL_acts_179 : decode cL_acts 179 = .ok (.iconst 3, 1) := by decide +kernel
theorem dL_acts_180 : decode cL_acts 180 = .ok (.aload_n 1, 1) := by decide +kernel
theorem dL_acts_181 : decode cL_acts 181 = .ok (.iconst 1, 1) := by decide +kernel
theorem dL_acts_182 : decode cL_acts 182 = .ok (.iaload, 1) := by decide +kernel
theorem dL_acts_183 : decode cL_acts 183 = .ok (.imul, 1) := by decide +kernel
theorem dL_acts_184 : decode cL_acts 184 = .ok (.iload 9, 2) := by decide +kernel
theorem dL_acts_186 : decode cL_acts 186 = .ok (.iastore, 1) := by decide +kernel
theorem dL_acts_187 : decode cL_acts 187 = .ok (.aload 5, 2) := by decide +kernel
theorem dL_acts_189 : decode cL_acts 189 = .ok (.iconst 3, 1) := by decide +kernel
theorem dL_acts_190 : decode cL_acts 190 = .ok (.aload_n 1, 1) := by decide +kernel
theorem dL_acts_191 : decode cL_acts 191 = .ok (.iconst 1, 1) := by decide +kernel
theorem dL_acts_192 : decode cL_acts 192 = .ok (.iaload, 1) := by decide +kernel
theorem dL_acts_193 : decode cL_acts 193 = .ok (.imul, 1) := by decide +kernel
theorem dL_acts_194 : decode cL_acts 194 = .ok (.iconst 1, 1) := by decide +kernel
theorem dL_acts_195 : decode cL_acts 195 = .ok (.iadd, 1) := by decide +kernel
theorem dL_acts_196 : decode cL_acts 196 = .ok (.iload 10, 2) := by decide +kernel
theorem dL_acts_198 : decode cL_acts 198 = .ok (.iastore, 1) := by decide +kernel
theorem dL_acts_199 : decode cL_acts 199 = .ok (.aload 5, 2) := by decide +kernel
theorem dL_acts_201 : decode cL_acts 201 = .ok (.iconst 3, 1) := by decide +kernel
theorem dL_acts_202 : decode cL_acts 202 = .ok (.aload_n 1, 1) := by decide +kernel
theorem dL_acts_203 : decode cL_acts 203 = .ok (.iconst 1, 1) := by decide +kernel
theorem dL_acts_204 : decode cL_acts 204 = .ok (.iaload, 1) := by decide +kernel
theorem dL_acts_205 : decode cL_acts 205 = .ok (.imul, 1) := by decide +kernel
theorem dL_acts_206 : decode cL_acts 206 = .ok (.iconst 2, 1) := by decide +kernel
theorem dL_acts_207 : decode cL_acts 207 = .ok (.iadd, 1) := by decide +kernel
theorem dL_acts_208 : decode cL_acts 208 = .ok (.iload 11, 2) := by decide +kernel
theorem dL_acts_210 : decode cL_acts 210 = .ok (.iastore, 1) := by decide +kernel
theorem dL_acts_211 : decode cL_acts 211 = .ok (.aload_n 1, 1) := by decide +kernel
theorem dL_acts_212 : decode cL_acts 212 = .ok (.iconst 1, 1) := by decide +kernel
theorem dL_acts_213 : decode cL_acts 213 = .ok (.dup2, 1) := by decide +kernel
theorem dL_acts_214 : decode cL_acts 214 = .ok (.iaload, 1) := by decide +kernel
theorem dL_acts_215 : decode cL_acts 215 = .ok (.iconst 1, 1) := by decide +kernel
theorem dL_acts_216 : decode cL_acts 216 = .ok (.iadd, 1) := by decide +kernel
theorem dL_acts_217 : decode cL_acts 217 = .ok (.iastore, 1) := by decide +kernel
theorem dL_acts_218 : decode cL_acts 218 = .ok (.aload_n 0, 1) := by decide +kernel
theorem dL_acts_219 : decode cL_acts 219 = .ok (.iload 9, 2) := by decide +kernel
theorem dL_acts_221 : decode cL_acts 221 = .ok (.iload 10, 2) := by decide +kernel
theorem dL_acts_223 : decode cL_acts 223 = .ok (.iload 11, 2) := by decide +kernel
theorem dL_acts_225 : decode cL_acts 225 = .ok (.invokevirtual 76, 3) := by decide +kernel
theorem dL_acts_228 : decode cL_acts 228 = .ok (.aload_n 1, 1) := by decide +kernel
theorem dL_acts_229 : decode cL_acts 229 = .ok (.iconst 1, 1) := by decide +kernel
theorem dL_acts_230 : decode cL_acts 230 = .ok (.iaload, 1) := by decide +kernel
theorem dL_acts_231 : decode cL_acts 231 = .ok (.if_icmp .ne 7, 3) := by decide +kernel
theorem dL_acts_234 : decode cL_acts 234 = .ok (.iconst 1, 1) := by decide +kernel
theorem dL_acts_235 : decode cL_acts 235 = .ok (.goto 4, 3) := by decide +kernel
theorem dL_acts_238 : decode cL_acts 238 = .ok (.iconst 0, 1) := by decide +kernel
theorem dL_acts_239 : decode cL_acts 239 = .ok (.ireturn, 1) := by decide +kernel
theorem dL_acts_240 : decode cL_acts 240 = .ok (.iload 8, 2) := by decide +kernel
theorem dL_acts_242 : decode cL_acts 242 = .ok (.bipush 17, 2) := by decide +kernel
theorem dL_acts_244 : decode cL_acts 244 = .ok (.if_icmp .ne 71, 3) := by decide +kernel
theorem dL_acts_247 : decode cL_acts 247 = .ok (.iload 7, 2) := by decide +kernel
theorem dL_acts_249 : decode cL_acts 249 = .ok (.aload_n 1, 1) := by decide +kernel
theorem dL_acts_250 : decode cL_acts 250 = .ok (.iconst 1, 1) := by decide +kernel
theorem dL_acts_251 : decode cL_acts 251 = .ok (.iaload, 1) := by decide +kernel
theorem dL_acts_252 : decode cL_acts 252 = .ok (.iconst 1, 1) := by decide +kernel
theorem dL_acts_253 : decode cL_acts 253 = .ok (.iadd, 1) := by decide +kernel
theorem dL_acts_254 : decode cL_acts 254 = .ok (.irem, 1) := by decide +kernel
theorem dL_acts_255 : decode cL_acts 255 = .ok (.istore 10, 2) := by decide +kernel
theorem dL_acts_257 : decode cL_acts 257 = .ok (.iload 10, 2) := by decide +kernel
theorem dL_acts_259 : decode cL_acts 259 = .ok (.aload_n 1, 1) := by decide +kernel
theorem dL_acts_260 : decode cL_acts 260 = .ok (.iconst 1, 1) := by decide +kernel
theorem dL_acts_261 : decode cL_acts 261 = .ok (.iaload, 1) := by decide +kernel
theorem dL_acts_262 : decode cL_acts 262 = .ok (.if_icmp .ne 19, 3) := by decide +kernel
theorem dL_acts_265 : decode cL_acts 265 = .ok (.aload_n 0, 1) := by decide +kernel
theorem dL_acts_266 : decode cL_acts 266 = .ok (.iload 10, 2) := by decide +kernel
theorem dL_acts_268 : decode cL_acts 268 = .ok (.invokevirtual 79, 3) := by decide +kernel
theorem dL_acts_271 : decode cL_acts 271 = .ok (.iconst (-1), 1) := by decide +kernel
theorem dL_acts_272 : decode cL_acts 272 = .ok (.if_icmp .ne 7, 3) := by decide +kernel
theorem dL_acts_275 : decode cL_acts 275 = .ok (.iconst 1, 1) := by decide +kernel
theorem dL_acts_276 : decode cL_acts 276 = .ok (.goto 4, 3) := by decide +kernel
theorem dL_acts_279 : decode cL_acts 279 = .ok (.iconst 0, 1) := by decide +kernel
theorem dL_acts_280 : decode cL_acts 280 = .ok (.ireturn, 1) := by decide +kernel
theorem dL_acts_281 : decode cL_acts 281 = .ok (.aload 5, 2) := by decide +kernel
theorem dL_acts_283 : decode cL_acts 283 = .ok (.iconst 3, 1) := by decide +kernel
theorem dL_acts_284 : decode cL_acts 284 = .ok (.iload 10, 2) := by decide +kernel
theorem dL_acts_286 : decode cL_acts 286 = .ok (.imul, 1) := by decide +kernel
theorem dL_acts_287 : decode cL_acts 287 = .ok (.iaload, 1) := by decide +kernel
theorem dL_acts_288 : decode cL_acts 288 = .ok (.istore 11, 2) := by decide +kernel
theorem dL_acts_290 : decode cL_acts 290 = .ok (.aload_n 1, 1) := by decide +kernel
theorem dL_acts_291 : decode cL_acts 291 = .ok (.aload 5, 2) := by decide +kernel
theorem dL_acts_293 : decode cL_acts 293 = .ok (.iload 10, 2) := by decide +kernel
theorem dL_acts_295 : decode cL_acts 295 = .ok (.invokestatic 37, 3) := by decide +kernel
theorem dL_acts_298 : decode cL_acts 298 = .ok (.aload_n 0, 1) := by decide +kernel
theorem dL_acts_299 : decode cL_acts 299 = .ok (.iload 10, 2) := by decide +kernel
theorem dL_acts_301 : decode cL_acts 301 = .ok (.invokevirtual 79, 3) := by decide +kernel
theorem dL_acts_304 : decode cL_acts 304 = .ok (.iload 11, 2) := by decide +kernel
theorem dL_acts_306 : decode cL_acts 306 = .ok (.if_icmp .ne 7, 3) := by decide +kernel
theorem dL_acts_309 : decode cL_acts 309 = .ok (.iconst 1, 1) := by decide +kernel
theorem dL_acts_310 : decode cL_acts 310 = .ok (.goto 4, 3) := by decide +kernel
theorem dL_acts_313 : decode cL_acts 313 = .ok (.iconst 0, 1) := by decide +kernel
theorem dL_acts_314 : decode cL_acts 314 = .ok (.ireturn, 1) := by decide +kernel
theorem dL_acts_315 : decode cL_acts 315 = .ok (.iload 8, 2) := by decide +kernel
theorem dL_acts_317 : decode cL_acts 317 = .ok (.bipush 20, 2) := by decide +kernel
theorem dL_acts_319 : decode cL_acts 319 = .ok (.if_icmp .ge 64, 3) := by decide +kernel
theorem dL_acts_322 : decode cL_acts 322 = .ok (.aload_n 1, 1) := by decide +kernel
theorem dL_acts_323 : decode cL_acts 323 = .ok (.aload_n 2, 1) := by decide +kernel
theorem dL_acts_324 : decode cL_acts 324 = .ok (.aload_n 3, 1) := by decide +kernel
theorem dL_acts_325 : decode cL_acts 325 = .ok (.iload 9, 2) := by decide +kernel
theorem dL_acts_327 : decode cL_acts 327 = .ok (.invokestatic 27, 3) := by decide +kernel
theorem dL_acts_330 : decode cL_acts 330 = .ok (.ifCond .ne 20, 3) := by decide +kernel
theorem dL_acts_333 : decode cL_acts 333 = .ok (.aload_n 0, 1) := by decide +kernel
theorem dL_acts_334 : decode cL_acts 334 = .ok (.iload 9, 2) := by decide +kernel
theorem dL_acts_336 : decode cL_acts 336 = .ok (.invokevirtual 81, 3) := by decide +kernel
theorem dL_acts_339 : decode cL_acts 339 = .ok (.bipush (-2), 2) := by decide +kernel
theorem dL_acts_341 : decode cL_acts 341 = .ok (.if_icmp .ne 7, 3) := by decide +kernel
theorem dL_acts_344 : decode cL_acts 344 = .ok (.iconst 1, 1) := by decide +kernel
theorem dL_acts_345 : decode cL_acts 345 = .ok (.goto 4, 3) := by decide +kernel
theorem dL_acts_348 : decode cL_acts 348 = .ok (.iconst 0, 1) := by decide +kernel
theorem dL_acts_349 : decode cL_acts 349 = .ok (.ireturn, 1) := by decide +kernel
theorem dL_acts_350 : decode cL_acts 350 = .ok (.aload_n 2, 1) := by decide +kernel
theorem dL_acts_351 : decode cL_acts 351 = .ok (.aload_n 3, 1) := by decide +kernel
theorem dL_acts_352 : decode cL_acts 352 = .ok (.aload 4, 2) := by decide +kernel
theorem dL_acts_354 : decode cL_acts 354 = .ok (.iload 9, 2) := by decide +kernel
theorem dL_acts_356 : decode cL_acts 356 = .ok (.invokestatic 31, 3) := by decide +kernel
theorem dL_acts_359 : decode cL_acts 359 = .ok (.aload_n 0, 1) := by decide +kernel
theorem dL_acts_360 : decode cL_acts 360 = .ok (.iload 9, 2) := by decide +kernel
theorem dL_acts_362 : decode cL_acts 362 = .ok (.invokevirtual 81, 3) := by decide +kernel
theorem dL_acts_365 : decode cL_acts 365 = .ok (.aload_n 2, 1) := by decide +kernel
theorem dL_acts_366 : decode cL_acts 366 = .ok (.bipush 8, 2) := by decide +kernel
theorem dL_acts_368 : decode cL_acts 368 = .ok (.iload 9, 2) := by decide +kernel
theorem dL_acts_370 : decode cL_acts 370 = .ok (.imul, 1) := by decide +kernel
theorem dL_acts_371 : decode cL_acts 371 = .ok (.iconst 2, 1) := by decide +kernel
theorem dL_acts_372 : decode cL_acts 372 = .ok (.iadd, 1) := by decide +kernel
theorem dL_acts_373 : decode cL_acts 373 = .ok (.iaload, 1) := by decide +kernel
theorem dL_acts_374 : decode cL_acts 374 = .ok (.if_icmp .ne 7, 3) := by decide +kernel
theorem dL_acts_377 : decode cL_acts 377 = .ok (.iconst 1, 1) := by decide +kernel
theorem dL_acts_378 : decode cL_acts 378 = .ok (.goto 4, 3) := by decide +kernel
theorem dL_acts_381 : decode cL_acts 381 = .ok (.iconst 0, 1) := by decide +kernel
theorem dL_acts_382 : decode cL_acts 382 = .ok (.ireturn, 1) := by decide +kernel
theorem dL_acts_383 : decode cL_acts 383 = .ok (.iload 8, 2) := by decide +kernel
theorem dL_acts_385 : decode cL_acts 385 = .ok (.bipush 22, 2) := by decide +kernel
theorem dL_acts_387 : decode cL_acts 387 = .ok (.if_icmp .ge 74, 3) := by decide +kernel
theorem dL_acts_390 : decode cL_acts 390 = .ok (.aload_n 3, 1) := by decide +kernel
theorem dL_acts_391 : decode cL_acts 391 = .ok (.bipush 8, 2) := by decide +kernel
theorem dL_acts_393 : decode cL_acts 393 = .ok (.iload 9, 2) := by decide +kernel
theorem dL_acts_395 : decode cL_acts 395 = .ok (.imul, 1) := by decide +kernel
theorem dL_acts_396 : decode cL_acts 396 = .ok (.iaload, 1) := by decide +kernel
theorem dL_acts_397 : decode cL_acts 397 = .ok (.iconst 2, 1) := by decide +kernel
theorem dL_acts_398 : decode cL_acts 398 = .ok (.if_icmp .ne 14, 3) := by decide +kernel
theorem dL_acts_401 : decode cL_acts 401 = .ok (.aload_n 1, 1) := by decide +kernel
theorem dL_acts_402 : decode cL_acts 402 = .ok (.aload_n 2, 1) := by decide +kernel
theorem dL_acts_403 : decode cL_acts 403 = .ok (.aload_n 3, 1) := by decide +kernel
theorem dL_acts_404 : decode cL_acts 404 = .ok (.iload 9, 2) := by decide +kernel
theorem dL_acts_406 : decode cL_acts 406 = .ok (.invokestatic 41, 3) := by decide +kernel
theorem dL_acts_409 : decode cL_acts 409 = .ok (.ifCond .eq 20, 3) := by decide +kernel
theorem dL_acts_412 : decode cL_acts 412 = .ok (.aload_n 0, 1) := by decide +kernel
theorem dL_acts_413 : decode cL_acts 413 = .ok (.iload 9, 2) := by decide +kernel
theorem dL_acts_415 : decode cL_acts 415 = .ok (.invokevirtual 83, 3) := by decide +kernel
theorem dL_acts_418 : decode cL_acts 418 = .ok (.bipush (-2), 2) := by decide +kernel
theorem dL_acts_420 : decode cL_acts 420 = .ok (.if_icmp .ne 7, 3) := by decide +kernel
theorem dL_acts_423 : decode cL_acts 423 = .ok (.iconst 1, 1) := by decide +kernel
theorem dL_acts_424 : decode cL_acts 424 = .ok (.goto 4, 3) := by decide +kernel
theorem dL_acts_427 : decode cL_acts 427 = .ok (.iconst 0, 1) := by decide +kernel
theorem dL_acts_428 : decode cL_acts 428 = .ok (.ireturn, 1) := by decide +kernel
theorem dL_acts_429 : decode cL_acts 429 = .ok (.aload_n 3, 1) := by decide +kernel
theorem dL_acts_430 : decode cL_acts 430 = .ok (.bipush 8, 2) := by decide +kernel
theorem dL_acts_432 : decode cL_acts 432 = .ok (.iload 9, 2) := by decide +kernel
theorem dL_acts_434 : decode cL_acts 434 = .ok (.imul, 1) := by decide +kernel
theorem dL_acts_435 : decode cL_acts 435 = .ok (.iconst 0, 1) := by decide +kernel
theorem dL_acts_436 : decode cL_acts 436 = .ok (.iastore, 1) := by decide +kernel
theorem dL_acts_437 : decode cL_acts 437 = .ok (.aload_n 0, 1) := by decide +kernel
theorem dL_acts_438 : decode cL_acts 438 = .ok (.iload 9, 2) := by decide +kernel
theorem dL_acts_440 : decode cL_acts 440 = .ok (.invokevirtual 83, 3) := by decide +kernel
theorem dL_acts_443 : decode cL_acts 443 = .ok (.aload_n 3, 1) := by decide +kernel
theorem dL_acts_444 : decode cL_acts 444 = .ok (.bipush 8, 2) := by decide +kernel
theorem dL_acts_446 : decode cL_acts 446 = .ok (.iload 9, 2) := by decide +kernel
theorem dL_acts_448 : decode cL_acts 448 = .ok (.imul, 1) := by decide +kernel
theorem dL_acts_449 : decode cL_acts 449 = .ok (.iconst 2, 1) := by decide +kernel
theorem dL_acts_450 : decode cL_acts 450 = .ok (.iadd, 1) := by decide +kernel
theorem dL_acts_451 : decode cL_acts 451 = .ok (.iaload, 1) := by decide +kernel
theorem dL_acts_452 : decode cL_acts 452 = .ok (.if_icmp .ne 7, 3) := by decide +kernel
theorem dL_acts_455 : decode cL_acts 455 = .ok (.iconst 1, 1) := by decide +kernel
theorem dL_acts_456 : decode cL_acts 456 = .ok (.goto 4, 3) := by decide +kernel
theorem dL_acts_459 : decode cL_acts 459 = .ok (.iconst 0, 1) := by decide +kernel
theorem dL_acts_460 : decode cL_acts 460 = .ok (.ireturn, 1) := by decide +kernel
theorem dL_acts_461 : decode cL_acts 461 = .ok (.iconst 1, 1) := by decide +kernel
theorem dL_acts_462 : decode cL_acts 462 = .ok (.iload 7, 2) := by decide +kernel
theorem dL_acts_464 : decode cL_acts 464 = .ok (.iload 7, 2) := by decide +kernel
theorem dL_acts_466 : decode cL_acts 466 = .ok (.iconst 4, 1) := by decide +kernel
theorem dL_acts_467 : decode cL_acts 467 = .ok (.irem, 1) := by decide +kernel
theorem dL_acts_468 : decode cL_acts 468 = .ok (.ifCond .ne 8, 3) := by decide +kernel
theorem dL_acts_471 : decode cL_acts 471 = .ok (.bipush 40, 2) := by decide +kernel
theorem dL_acts_473 : decode cL_acts 473 = .ok (.goto 5, 3) := by decide +kernel
theorem dL_acts_476 : decode cL_acts 476 = .ok (.bipush 6, 2) := by decide +kernel
theorem dL_acts_478 : decode cL_acts 478 = .ok (.irem, 1) := by decide +kernel
theorem dL_acts_479 : decode cL_acts 479 = .ok (.iadd, 1) := by decide +kernel
theorem dL_acts_480 : decode cL_acts 480 = .ok (.istore 10, 2) := by decide +kernel
theorem dL_acts_482 : decode cL_acts 482 = .ok (.lconst 0, 1) := by decide +kernel
theorem dL_acts_483 : decode cL_acts 483 = .ok (.lstore 11, 2) := by decide +kernel
theorem dL_acts_485 : decode cL_acts 485 = .ok (.iconst 0, 1) := by decide +kernel
theorem dL_acts_486 : decode cL_acts 486 = .ok (.istore 13, 2) := by decide +kernel
theorem dL_acts_488 : decode cL_acts 488 = .ok (.iload 13, 2) := by decide +kernel
theorem dL_acts_490 : decode cL_acts 490 = .ok (.iload 10, 2) := by decide +kernel
theorem dL_acts_492 : decode cL_acts 492 = .ok (.if_icmp .ge 24, 3) := by decide +kernel
theorem dL_acts_495 : decode cL_acts 495 = .ok (.lload 11, 2) := by decide +kernel
theorem dL_acts_497 : decode cL_acts 497 = .ok (.aload_n 1, 1) := by decide +kernel
theorem dL_acts_498 : decode cL_acts 498 = .ok (.aload_n 2, 1) := by decide +kernel
theorem dL_acts_499 : decode cL_acts 499 = .ok (.aload_n 3, 1) := by decide +kernel
theorem dL_acts_500 : decode cL_acts 500 = .ok (.aload 4, 2) := by decide +kernel
theorem dL_acts_502 : decode cL_acts 502 = .ok (.aload 5, 2) := by decide +kernel
theorem dL_acts_504 : decode cL_acts 504 = .ok (.invokestatic 86, 3) := by decide +kernel
theorem dL_acts_507 : decode cL_acts 507 = .ok (.ladd, 1) := by decide +kernel
theorem dL_acts_508 : decode cL_acts 508 = .ok (.lstore 11, 2) := by decide +kernel
theorem dL_acts_510 : decode cL_acts 510 = .ok (.iinc 13 1, 3) := by decide +kernel
theorem dL_acts_513 : decode cL_acts 513 = .ok (.goto (-25), 3) := by decide +kernel
theorem dL_acts_516 : decode cL_acts 516 = .ok (.aload_n 0, 1) := by decide +kernel
theorem dL_acts_517 : decode cL_acts 517 = .ok (.iload 10, 2) := by decide +kernel
theorem dL_acts_519 : decode cL_acts 519 = .ok (.invokevirtual 90, 3) := by decide +kernel
theorem dL_acts_522 : decode cL_acts 522 = .ok (.i2l, 1) := by decide +kernel
theorem dL_acts_523 : decode cL_acts 523 = .ok (.lload 11, 2) := by decide +kernel
theorem dL_acts_525 : decode cL_acts 525 = .ok (.ldc2_w 35, 3) := by decide +kernel
theorem dL_acts_528 : decode cL_acts 528 = .ok (.lrem, 1) := by decide +kernel
theorem dL_acts_529 : decode cL_acts 529 = .ok (.lcmp, 1) := by decide +kernel
theorem dL_acts_530 : decode cL_acts 530 = .ok (.ifCond .ne 7, 3) := by decide +kernel
theorem dL_acts_533 : decode cL_acts 533 = .ok (.iconst 1, 1) := by decide +kernel
theorem dL_acts_534 : decode cL_acts 534 = .ok (.goto 4, 3) := by decide +kernel
theorem dL_acts_537 : decode cL_acts 537 = .ok (.iconst 0, 1) := by decide +kernel
theorem dL_acts_538 : decode cL_acts 538 = .ok (.ireturn, 1) := by decide +kernel
set_option maxRecDepth 20000 in
theorem ggL_isRoom_X3_costOf : GoodIn wsL_isRoom wsX3_costOf := goodIn_sub (List.forall_mem_cons.mpr ⟨List.mem_of_getElem? (i := 5) rfl, List.forall_mem_cons.mpr ⟨List.mem_of_getElem? (i := 6) rfl, List.forall_mem_cons.mpr ⟨List.mem_of_getElem? (i := 7) rfl, List.forall_mem_cons.mpr ⟨List.mem_of_getElem? (i := 8) rfl, List.forall_mem_cons.mpr ⟨List.mem_of_getElem? (i := 9) rfl, List.forall_mem_cons.mpr ⟨List.mem_of_getElem? (i := 10) rfl, List.forall_mem_cons.mpr ⟨List.mem_of_getElem? (i := 11) rfl, List.forall_mem_cons.mpr ⟨List.mem_of_getElem? (i := 12) rfl, List.forall_mem_cons.mpr ⟨List.mem_of_getElem? (i := 13) rfl, List.forall_mem_cons.mpr ⟨List.mem_of_getElem? (i := 14) rfl, List.forall_mem_cons.mpr ⟨List.mem_of_getElem? (i := 15) rfl, List.forall_mem_cons.mpr ⟨List.mem_of_getElem? (i := 16) rfl, List.forall_mem_cons.mpr ⟨List.mem_of_getElem? (i := 4) rfl, List.forall_mem_cons.mpr ⟨List.mem_of_getElem? (i := 17) rfl, List.forall_mem_cons.mpr ⟨List.mem_of_getElem? (i := 88) rfl, List.forall_mem_cons.mpr ⟨List.mem_of_getElem? (i := 89) rfl, List.forall_mem_cons.mpr ⟨List.mem_of_getElem? (i := 90) rfl, List.forall_mem_cons.mpr ⟨List.mem_of_getElem? (i := 91) rfl, List.forall_mem_cons.mpr ⟨List.mem_of_getElem? (i := 92) rfl, List.forall_mem_cons.mpr ⟨List.mem_of_getElem? (i := 93) rfl, List.forall_mem_cons.mpr ⟨List.mem_of_getElem? (i := 94) rfl, List.forall_mem_cons.mpr ⟨List.mem_of_getElem? (i := 95) rfl, List.forall_mem_cons.mpr ⟨List.mem_of_getElem? (i := 96) rfl, List.forall_mem_cons.mpr ⟨List.mem_of_getElem? (i := 97) rfl, List.forall_mem_cons.mpr ⟨List.mem_of_getElem? (i := 98) rfl, List.forall_mem_cons.mpr ⟨List.mem_of_getElem? (i := 99) rfl, List.forall_mem_cons.mpr ⟨List.mem_of_getElem? (i := 100) rfl, List.forall_mem_cons.mpr ⟨List.mem_of_getElem? (i := 101) rfl, List.forall_mem_cons.mpr ⟨List.mem_of_getElem? (i := 102) rfl, List.forall_mem_cons.mpr ⟨List.mem_of_getElem? (i := 103) rfl, List.forall_mem_cons.mpr ⟨List.mem_of_getElem? (i := 104) rfl, List.forall_mem_cons.mpr ⟨List.mem_of_getElem? (i := 105) rfl, List.forall_mem_cons.mpr ⟨List.mem_of_getElem? (i := 106) rfl, List.forall_mem_cons.mpr ⟨List.mem_of_getElem? (i := 107) rfl, List.forall_mem_cons.mpr ⟨List.mem_of_getElem? (i := 108) rfl, List.forall_mem_cons.mpr ⟨List.mem_of_getElem? (i := 109) rfl, List.forall_mem_cons.mpr ⟨List.mem_of_getElem? (i := 110) rfl, List.forall_mem_cons.mpr ⟨List.mem_of_getElem? (i := 111) rfl, List.forall_mem_cons.mpr ⟨List.mem_of_getElem? (i := 112) rfl, List.forall_mem_cons.mpr ⟨List.mem_of_getElem? (i := 113) rfl, List.forall_mem_cons.mpr ⟨List.mem_of_getElem? (i := 114) rfl, List.forall_mem_cons.mpr ⟨List.mem_of_getElem? (i := 115) rfl, wk_mn⟩⟩⟩⟩⟩⟩⟩⟩⟩⟩⟩⟩⟩⟩⟩⟩⟩⟩⟩⟩⟩⟩⟩⟩⟩⟩⟩⟩⟩⟩⟩⟩⟩⟩⟩⟩⟩⟩⟩⟩⟩⟩) (by decide +kernel)
set_option maxRecDepth 20000 in
theorem gL_isRoom_X3_costOf : GoodIn wsL_isRoom (wsV RL 92 RX3 yX3_costOf wsX3_costOf) := goodIn_app (goodIn_sub (List.forall_mem_cons.mpr ⟨List.mem_of_getElem? (i := 1) rfl, List.forall_mem_cons.mpr ⟨List.mem_of_getElem? (i := 2) rfl, List.forall_mem_cons.mpr ⟨List.mem_of_getElem? (i := 3) rfl, List.forall_mem_cons.mpr ⟨List.mem_of_getElem? (i := 4) rfl, wk_mn⟩⟩⟩⟩) (by decide +kernel)) ggL_isRoom_X3_costOf
set_option maxRecDepth 20000 in
theorem ggL_isRoom_X3_energy : GoodIn wsL_isRoom wsX3_energy := goodIn_sub (List.forall_mem_cons.mpr ⟨List.mem_of_getElem? (i := 21) rfl, List.forall_mem_cons.mpr ⟨List.mem_of_getElem? (i := 6) rfl, List.forall_mem_cons.mpr ⟨List.mem_of_getElem? (i := 7) rfl, List.forall_mem_cons.mpr ⟨List.mem_of_getElem? (i := 22) rfl, List.forall_mem_cons.mpr ⟨List.mem_of_getElem? (i := 9) rfl, List.forall_mem_cons.mpr ⟨List.mem_of_getElem? (i := 10) rfl, List.forall_mem_cons.mpr ⟨List.mem_of_getElem? (i := 11) rfl, List.forall_mem_cons.mpr ⟨List.mem_of_getElem? (i := 12) rfl, List.forall_mem_cons.mpr ⟨List.mem_of_getElem? (i := 13) rfl, List.forall_mem_cons.mpr ⟨List.mem_of_getElem? (i := 14) rfl, List.forall_mem_cons.mpr ⟨List.mem_of_getElem? (i := 15) rfl, List.forall_mem_cons.mpr ⟨List.mem_of_getElem? (i := 16) rfl, List.forall_mem_cons.mpr ⟨List.mem_of_getElem? (i := 4) rfl, List.forall_mem_cons.mpr ⟨List.mem_of_getElem? (i := 17) rfl, List.forall_mem_cons.mpr ⟨List.mem_of_getElem? (i := 23) rfl, List.forall_mem_cons.mpr ⟨List.mem_of_getElem? (i := 24) rfl, List.forall_mem_cons.mpr ⟨List.mem_of_getElem? (i := 25) rfl, List.forall_mem_cons.mpr ⟨List.mem_of_getElem? (i := 26) rfl, List.forall_mem_cons.mpr ⟨List.mem_of_getElem? (i := 27) rfl, List.forall_mem_cons.mpr ⟨List.mem_of_getElem? (i := 28) rfl, List.forall_mem_cons.mpr ⟨List.mem_of_getElem? (i := 88) rfl, List.forall_mem_cons.mpr ⟨List.mem_of_getElem? (i := 89) rfl, List.forall_mem_cons.mpr ⟨List.mem_of_getElem? (i := 90) rfl, List.forall_mem_cons.mpr ⟨List.mem_of_getElem? (i := 91) rfl, List.forall_mem_cons.mpr ⟨List.mem_of_getElem? (i := 92) rfl, List.forall_mem_cons.mpr ⟨List.mem_of_getElem? (i := 93) rfl, List.forall_mem_cons.mpr ⟨List.mem_of_getElem? (i := 94) rfl, List.forall_mem_cons.mpr ⟨List.mem_of_getElem? (i := 95) rfl, List.forall_mem_cons.mpr ⟨List.mem_of_getElem? (i := 96) rfl, List.forall_mem_cons.mpr ⟨List.mem_of_getElem? (i := 97) rfl, List.forall_mem_cons.mpr ⟨List.mem_of_getElem? (i := 98) rfl, List.forall_mem_cons.mpr ⟨List.mem_of_getElem? (i := 99) rfl, List.forall_mem_cons.mpr ⟨List.mem_of_getElem? (i := 100) rfl, List.forall_mem_cons.mpr ⟨List.mem_of_getElem? (i := 101) rfl, List.forall_mem_cons.mpr ⟨List.mem_of_getElem? (i := 102) rfl, List.forall_mem_cons.mpr ⟨List.mem_of_getElem? (i := 103) rfl, List.forall_mem_cons.mpr ⟨List.mem_of_getElem? (i := 104) rfl, List.forall_mem_cons.mpr ⟨List.mem_of_getElem? (i := 105) rfl, List.forall_mem_cons.mpr ⟨List.mem_of_getElem? (i := 106) rfl, List.forall_mem_cons.mpr ⟨List.mem_of_getElem? (i := 107) rfl, List.forall_mem_cons.mpr ⟨List.mem_of_getElem? (i := 108) rfl, List.forall_mem_cons.mpr ⟨List.mem_of_getElem? (i := 109) rfl, List.forall_mem_cons.mpr ⟨List.mem_of_getElem? (i := 110) rfl, List.forall_mem_cons.mpr ⟨List.mem_of_getElem? (i := 111) rfl, List.forall_mem_cons.mpr ⟨List.mem_of_getElem? (i := 112) rfl, List.forall_mem_cons.mpr ⟨List.mem_of_getElem? (i := 113) rfl, List.forall_mem_cons.mpr ⟨List.mem_of_getElem? (i := 114) rfl, List.forall_mem_cons.mpr ⟨List.mem_of_getElem? (i := 115) rfl, wk_mn⟩⟩⟩⟩⟩⟩⟩⟩⟩⟩⟩⟩⟩⟩⟩⟩⟩⟩⟩⟩⟩⟩⟩⟩⟩⟩⟩⟩⟩⟩⟩⟩⟩⟩⟩⟩⟩⟩⟩⟩⟩⟩⟩⟩⟩⟩⟩⟩) (by decide +kernel)
set_option maxRecDepth 20000 in
theorem gL_isRoom_X3_energy : GoodIn wsL_isRoom (wsV RL 95 RX3 yX3_energy wsX3_energy) := goodIn_app (goodIn_sub (List.forall_mem_cons.mpr ⟨List.mem_of_getElem? (i := 18) rfl, List.forall_mem_cons.mpr ⟨List.mem_of_getElem? (i := 19) rfl, List.forall_mem_cons.mpr ⟨List.mem_of_getElem? (i := 20) rfl, List.forall_mem_cons.mpr ⟨List.mem_of_getElem? (i := 4) rfl, wk_mn⟩⟩⟩⟩) (by decide +kernel)) ggL_isRoom_X3_energy
set_option maxRecDepth 20000 in
theorem ggL_isRoom_X3_roomOf : GoodIn wsL_isRoom wsX3_roomOf := goodIn_sub (List.forall_mem_cons.mpr ⟨List.mem_of_getElem? (i := 32) rfl, List.forall_mem_cons.mpr ⟨List.mem_of_getElem? (i := 6) rfl, List.forall_mem_cons.mpr ⟨List.mem_of_getElem? (i := 7) rfl, List.forall_mem_cons.mpr ⟨List.mem_of_getElem? (i := 9) rfl, List.forall_mem_cons.mpr ⟨List.mem_of_getElem? (i := 10) rfl, List.forall_mem_cons.mpr ⟨List.mem_of_getElem? (i := 11) rfl, List.forall_mem_cons.mpr ⟨List.mem_of_getElem? (i := 12) rfl, List.forall_mem_cons.mpr ⟨List.mem_of_getElem? (i := 13) rfl, List.forall_mem_cons.mpr ⟨List.mem_of_getElem? (i := 14) rfl, List.forall_mem_cons.mpr ⟨List.mem_of_getElem? (i := 15) rfl, List.forall_mem_cons.mpr ⟨List.mem_of_getElem? (i := 16) rfl, List.forall_mem_cons.mpr ⟨List.mem_of_getElem? (i := 4) rfl, List.forall_mem_cons.mpr ⟨List.mem_of_getElem? (i := 17) rfl, List.forall_mem_cons.mpr ⟨List.mem_of_getElem? (i := 33) rfl, List.forall_mem_cons.mpr ⟨List.mem_of_getElem? (i := 34) rfl, List.forall_mem_cons.mpr ⟨List.mem_of_getElem? (i := 35) rfl, List.forall_mem_cons.mpr ⟨List.mem_of_getElem? (i := 36) rfl, List.forall_mem_cons.mpr ⟨List.mem_of_getElem? (i := 37) rfl, List.forall_mem_cons.mpr ⟨List.mem_of_getElem? (i := 38) rfl, List.forall_mem_cons.mpr ⟨List.mem_of_getElem? (i := 39) rfl, List.forall_mem_cons.mpr ⟨List.mem_of_getElem? (i := 40) rfl, List.forall_mem_cons.mpr ⟨List.mem_of_getElem? (i := 41) rfl, List.forall_mem_cons.mpr ⟨List.mem_of_getElem? (i := 42) rfl, List.forall_mem_cons.mpr ⟨List.mem_of_getElem? (i := 43) rfl, List.forall_mem_cons.mpr ⟨List.mem_of_getElem? (i := 44) rfl, List.forall_mem_cons.mpr ⟨List.mem_of_getElem? (i := 45) rfl, List.forall_mem_cons.mpr ⟨List.mem_of_getElem? (i := 46) rfl, List.forall_mem_cons.mpr ⟨List.mem_of_getElem? (i := 47) rfl, List.forall_mem_cons.mpr ⟨List.mem_of_getElem? (i := 48) rfl, List.forall_mem_cons.mpr ⟨List.mem_of_getElem? (i := 49) rfl, List.forall_mem_cons.mpr ⟨List.mem_of_getElem? (i := 50) rfl, List.forall_mem_cons.mpr ⟨List.mem_of_getElem? (i := 51) rfl, List.forall_mem_cons.mpr ⟨List.mem_of_getElem? (i := 52) rfl, List.forall_mem_cons.mpr ⟨List.mem_of_getElem? (i := 53) rfl, List.forall_mem_cons.mpr ⟨List.mem_of_getElem? (i := 54) rfl, List.forall_mem_cons.mpr ⟨List.mem_of_getElem? (i := 55) rfl, List.forall_mem_cons.mpr ⟨List.mem_of_getElem? (i := 56) rfl, List.forall_mem_cons.mpr ⟨List.mem_of_getElem? (i := 57) rfl, List.forall_mem_cons.mpr ⟨List.mem_of_getElem? (i := 58) rfl, List.forall_mem_cons.mpr ⟨List.mem_of_getElem? (i := 26) rfl, List.forall_mem_cons.mpr ⟨List.mem_of_getElem? (i := 59) rfl, List.forall_mem_cons.mpr ⟨List.mem_of_getElem? (i := 60) rfl, List.forall_mem_cons.mpr ⟨List.mem_of_getElem? (i := 61) rfl, List.forall_mem_cons.mpr ⟨List.mem_of_getElem? (i := 62) rfl, List.forall_mem_cons.mpr ⟨List.mem_of_getElem? (i := 63) rfl, List.forall_mem_cons.mpr ⟨List.mem_of_getElem? (i := 64) rfl, List.forall_mem_cons.mpr ⟨List.mem_of_getElem? (i := 65) rfl, List.forall_mem_cons.mpr ⟨List.mem_of_getElem? (i := 66) rfl, List.forall_mem_cons.mpr ⟨List.mem_of_getElem? (i := 67) rfl, List.forall_mem_cons.mpr ⟨List.mem_of_getElem? (i := 68) rfl, List.forall_mem_cons.mpr ⟨List.mem_of_getElem? (i := 69) rfl, List.forall_mem_cons.mpr ⟨List.mem_of_getElem? (i := 70) rfl, List.forall_mem_cons.mpr ⟨List.mem_of_getElem? (i := 71) rfl, List.forall_mem_cons.mpr ⟨List.mem_of_getElem? (i := 72) rfl, List.forall_mem_cons.mpr ⟨List.mem_of_getElem? (i := 73) rfl, List.forall_mem_cons.mpr ⟨List.mem_of_getElem? (i := 74) rfl, List.forall_mem_cons.mpr ⟨List.mem_of_getElem? (i := 75) rfl, List.forall_mem_cons.mpr ⟨List.mem_of_getElem? (i := 76) rfl, List.forall_mem_cons.mpr ⟨List.mem_of_getElem? (i := 77) rfl, List.forall_mem_cons.mpr ⟨List.mem_of_getElem? (i := 88) rfl, List.forall_mem_cons.mpr ⟨List.mem_of_getElem? (i := 89) rfl, List.forall_mem_cons.mpr ⟨List.mem_of_getElem? (i := 90) rfl, List.forall_mem_cons.mpr ⟨List.mem_of_getElem? (i := 91) rfl, List.forall_mem_cons.mpr ⟨List.mem_of_getElem? (i := 92) rfl, List.forall_mem_cons.mpr ⟨List.mem_of_getElem? (i := 93) rfl, List.forall_mem_cons.mpr ⟨List.mem_of_getElem? (i := 94) rfl, List.forall_mem_cons.mpr ⟨List.mem_of_getElem? (i := 95) rfl, List.forall_mem_cons.mpr ⟨List.mem_of_getElem? (i := 96) rfl, List.forall_mem_cons.mpr ⟨List.mem_of_getElem? (i := 97) rfl, List.forall_mem_cons.mpr ⟨List.mem_of_getElem? (i := 98) rfl, List.forall_mem_cons.mpr ⟨List.mem_of_getElem? (i := 99) rfl, List.forall_mem_cons.mpr ⟨List.mem_of_getElem? (i := 100) rfl, List.forall_mem_cons.mpr ⟨List.mem_of_getElem? (i := 101) rfl, List.forall_mem_cons.mpr ⟨List.mem_of_getElem? (i := 102) rfl, List.forall_mem_cons.mpr ⟨List.mem_of_getElem? (i := 103) rfl, List.forall_mem_cons.mpr ⟨List.mem_of_getElem? (i := 104) rfl, List.forall_mem_cons.mpr ⟨List.mem_of_getElem? (i := 105) rfl, List.forall_mem_cons.mpr ⟨List.mem_of_getElem? (i := 106) rfl, List.forall_mem_cons.mpr ⟨List.mem_of_getElem? (i := 107) rfl, List.forall_mem_cons.mpr ⟨List.mem_of_getElem? (i := 108) rfl, List.forall_mem_cons.mpr ⟨List.mem_of_getElem? (i := 109) rfl, List.forall_mem_cons.mpr ⟨List.mem_of_getElem? (i := 110) rfl, List.forall_mem_cons.mpr ⟨List.mem_of_getElem? (i := 111) rfl, List.forall_mem_cons.mpr ⟨List.mem_of_getElem? (i := 112) rfl, List.forall_mem_cons.mpr ⟨List.mem_of_getElem? (i := 113) rfl, List.forall_mem_cons.mpr ⟨List.mem_of_getElem? (i := 114) rfl, List.forall_mem_cons.mpr ⟨List.mem_of_getElem? (i := 115) rfl, wk_mn⟩⟩⟩⟩⟩⟩⟩⟩⟩⟩⟩⟩⟩⟩⟩⟩⟩⟩⟩⟩⟩⟩⟩⟩⟩⟩⟩⟩⟩⟩⟩⟩⟩⟩⟩⟩⟩⟩⟩⟩⟩⟩⟩⟩⟩⟩⟩⟩⟩⟩⟩⟩⟩⟩⟩⟩⟩⟩⟩⟩⟩⟩⟩⟩⟩⟩⟩⟩⟩⟩⟩⟩⟩⟩⟩⟩⟩⟩⟩⟩⟩⟩⟩⟩⟩⟩⟩) (by decide +kernel)
set_option maxRecDepth 20000 in
theorem gL_isRoom_X3_roomOf : GoodIn wsL_isRoom (wsV RL 98 RX3 yX3_roomOf wsX3_roomOf) := goodIn_app (goodIn_sub (List.forall_mem_cons.mpr ⟨List.mem_of_getElem? (i := 29) rfl, List.forall_mem_cons.mpr ⟨List.mem_of_getElem? (i := 30) rfl, List.forall_mem_cons.mpr ⟨List.mem_of_getElem? (i := 31) rfl, List.forall_mem_cons.mpr ⟨List.mem_of_getElem? (i := 4) rfl, wk_mn⟩⟩⟩⟩) (by decide +kernel)) ggL_isRoom_X3_roomOf
set_option maxRecDepth 20000 in
theorem ggL_isRoom_L_called : GoodIn wsL_isRoom wsL_called := goodIn_sub (List.forall_mem_cons.mpr ⟨List.mem_of_getElem? (i := 81) rfl, List.forall_mem_cons.mpr ⟨List.mem_of_getElem? (i := 82) rfl, List.forall_mem_cons.mpr ⟨List.mem_of_getElem? (i := 83) rfl, List.forall_mem_cons.mpr ⟨List.mem_of_getElem? (i := 80) rfl, List.forall_mem_cons.mpr ⟨List.mem_of_getElem? (i := 84) rfl, List.forall_mem_cons.mpr ⟨List.mem_of_getElem? (i := 85) rfl, List.forall_mem_cons.mpr ⟨List.mem_of_getElem? (i := 86) rfl, List.forall_mem_cons.mpr ⟨List.mem_of_getElem? (i := 87) rfl, wk_mn⟩⟩⟩⟩⟩⟩⟩⟩) (by decide +kernel)
set_option maxRecDepth 20000 in
theorem gL_isRoom_L_called : GoodIn wsL_isRoom (va_wsS RL 23 yL_called wsL_called) := goodIn_app (goodIn_sub (List.forall_mem_cons.mpr ⟨List.mem_of_getElem? (i := 78) rfl, List.forall_mem_cons.mpr ⟨List.mem_of_getElem? (i := 79) rfl, List.forall_mem_cons.mpr ⟨List.mem_of_getElem? (i := 80) rfl, wk_mn⟩⟩⟩) (by decide +kernel)) ggL_isRoom_L_called
theorem dL_isRoom_0 : decode cL_isRoom 0 = .ok (.iconst 0, 1) := by decide +kernel
theorem dL_isRoom_1 : decode cL_isRoom 1 = .ok (.istore 7, 2) := by decide +kernel
theorem dL_isRoom_3 : decode cL_isRoom 3 = .ok (.iconst 1, 1) := by decide +kernel
theorem dL_isRoom_4 : decode cL_isRoom 4 = .ok (.istore 8, 2) := by decide +kernel
theorem dL_isRoom_6 : decode cL_isRoom 6 = .ok (.iconst 0, 1) := by decide +kernel
theorem dL_isRoom_7 : decode cL_isRoom 7 = .ok (.istore 9, 2) := by decide +kernel
theorem dL_isRoom_9 : decode cL_isRoom 9 = .ok (.iload 9, 2) := by decide +kernel
theorem dL_isRoom_11 : decode cL_isRoom 11 = .ok (.aload_n 1, 1) := by decide +kernel
theorem dL_isRoom_12 : decode cL_isRoom 12 = .ok (.iconst 1, 1) := by decide +kernel
theorem dL_isRoom_13 : decode cL_isRoom 13 = .ok (.iaload, 1) := by decide +kernel
theorem dL_isRoom_14 : decode cL_isRoom 14 = .ok (.if_icmp .ge 31, 3) := by decide +kernel
theorem dL_isRoom_17 : decode cL_isRoom 17 = .ok (.iload 7, 2) := by decide +kernel
theorem dL_isRoom_19 : decode cL_isRoom 19 = .ok (.aload 5, 2) := by decide +kernel
theorem dL_isRoom_21 : decode cL_isRoom 21 = .ok (.iconst 3, 1) := by decide +kernel
theorem dL_isRoom_22 : decode cL_isRoom 22 = .ok (.iload 9, 2) := by decide +kernel
theorem dL_isRoom_24 : decode cL_isRoom 24 = .ok (.imul, 1) := by decide +kernel
theorem dL_isRoom_25 : decode cL_isRoom 25 = .ok (.iaload, 1) := by decide +kernel
theorem dL_isRoom_26 : decode cL_isRoom 26 = .ok (.iload 6, 2) := by decide +kernel
theorem dL_isRoom_28 : decode cL_isRoom 28 = .ok (.if_icmp .ne 7, 3) := by decide +kernel
theorem dL_isRoom_31 : decode cL_isRoom 31 = .ok (.iconst 1, 1) := by decide +kernel
theorem dL_isRoom_32 : decode cL_isRoom 32 = .ok (.goto 4, 3) := by decide +kernel
theorem dL_isRoom_35 : decode cL_isRoom 35 = .ok (.iconst 0, 1) := by decide +kernel
theorem dL_isRoom_36 : decode cL_isRoom 36 = .ok (.iadd, 1) := by decide +kernel
theorem dL_isRoom_37 : decode cL_isRoom 37 = .ok (.istore 7, 2) := by decide +kernel
theorem dL_isRoom_39 : decode cL_isRoom 39 = .ok (.iinc 9 1, 3) := by decide +kernel
theorem dL_isRoom_42 : decode cL_isRoom 42 = .ok (.goto (-33), 3) := by decide +kernel
theorem dL_isRoom_45 : decode cL_isRoom 45 = .ok (.iconst 0, 1) := by decide +kernel
theorem dL_isRoom_46 : decode cL_isRoom 46 = .ok (.istore 9, 2) := by decide +kernel
theorem dL_isRoom_48 : decode cL_isRoom 48 = .ok (.iload 9, 2) := by decide +kernel
theorem dL_isRoom_50 : decode cL_isRoom 50 = .ok (.iconst 5, 1) := by decide +kernel
theorem dL_isRoom_51 : decode cL_isRoom 51 = .ok (.if_icmp .ge 71, 3) := by decide +kernel
theorem dL_isRoom_54 : decode cL_isRoom 54 = .ok (.iload 8, 2) := by decide +kernel
theorem dL_isRoom_56 : decode cL_isRoom 56 = .ok (.ifCond .eq 66, 3) := by decide +kernel
theorem dL_isRoom_59 : decode cL_isRoom 59 = .ok (.aload_n 0, 1) := by decide +kernel
theorem dL_isRoom_60 : decode cL_isRoom 60 = .ok (.iload 6, 2) := by decide +kernel
theorem dL_isRoom_62 : decode cL_isRoom 62 = .ok (.iload 9, 2) := by decide +kernel
theorem dL_isRoom_64 : decode cL_isRoom 64 = .ok (.invokevirtual 92, 3) := by decide +kernel
theorem dL_isRoom_67 : decode cL_isRoom 67 = .ok (.aload_n 2, 1) := by decide +kernel
theorem dL_isRoom_68 : decode cL_isRoom 68 = .ok (.bipush 8, 2) := by decide +kernel
theorem dL_isRoom_70 : decode cL_isRoom 70 = .ok (.iload 6, 2) := by decide +kernel
theorem dL_isRoom_72 : decode cL_isRoom 72 = .ok (.imul, 1) := by decide +kernel
theorem dL_isRoom_73 : decode cL_isRoom 73 = .ok (.iconst 1, 1) := by decide +kernel
theorem dL_isRoom_74 : decode cL_isRoom 74 = .ok (.iadd, 1) := by decide +kernel
theorem dL_isRoom_75 : decode cL_isRoom 75 = .ok (.iload 9, 2) := by decide +kernel
theorem dL_isRoom_77 : decode cL_isRoom 77 = .ok (.iadd, 1) := by decide +kernel
theorem dL_isRoom_78 : decode cL_isRoom 78 = .ok (.iaload, 1) := by decide +kernel
theorem dL_isRoom_79 : decode cL_isRoom 79 = .ok (.if_icmp .ne 34, 3) := by decide +kernel
theorem dL_isRoom_82 : decode cL_isRoom 82 = .ok (.iload 9, 2) := by decide +kernel
theorem dL_isRoom_84 : decode cL_isRoom 84 = .ok (.iconst 4, 1) := by decide +kernel
theorem dL_isRoom_85 : decode cL_isRoom 85 = .ok (.if_icmp .eq 24, 3) := by decide +kernel
theorem dL_isRoom_88 : decode cL_isRoom 88 = .ok (.aload_n 0, 1) := by decide +kernel
theorem dL_isRoom_89 : decode cL_isRoom 89 = .ok (.iload 6, 2) := by decide +kernel
theorem dL_isRoom_91 : decode cL_isRoom 91 = .ok (.iload 9, 2) := by decide +kernel
theorem dL_isRoom_93 : decode cL_isRoom 93 = .ok (.invokevirtual 95, 3) := by decide +kernel
theorem dL_isRoom_96 : decode cL_isRoom 96 = .ok (.aload 4, 2) := by decide +kernel
theorem dL_isRoom_98 : decode cL_isRoom 98 = .ok (.iconst 4, 1) := by decide +kernel
theorem dL_isRoom_99 : decode cL_isRoom 99 = .ok (.iload 6, 2) := by decide +kernel
theorem dL_isRoom_101 : decode cL_isRoom 101 = .ok (.imul, 1) := by decide +kernel
theorem dL_isRoom_102 : decode cL_isRoom 102 = .ok (.iload 9, 2) := by decide +kernel
theorem dL_isRoom_104 : decode cL_isRoom 104 = .ok (.iadd, 1) := by decide +kernel
theorem dL_isRoom_105 : decode cL_isRoom 105 = .ok (.iaload, 1) := by decide +kernel
theorem dL_isRoom_106 : decode cL_isRoom 106 = .ok (.if_icmp .ne 7, 3) := by decide +kernel
theorem dL_isRoom_109 : decode cL_isRoom 109 = .ok (.iconst 1, 1) := by decide +kernel
theorem dL_isRoom_110 : decode cL_isRoom 110 = .ok (.goto 4, 3) := by decide +kernel
theorem dL_isRoom_113 : decode cL_isRoom 113 = .ok (.iconst 0, 1) := by decide +kernel
theorem dL_isRoom_114 : decode cL_isRoom 114 = .ok (.istore 8, 2) := by decide +kernel
theorem dL_isRoom_116 : decode cL_isRoom 116 = .ok (.iinc 9 1, 3) := by decide +kernel
theorem dL_isRoom_119 : decode cL_isRoom 119 = .ok (.goto (-71), 3) := by decide +kernel
theorem dL_isRoom_122 : decode cL_isRoom 122 = .ok (.aload_n 3, 1) := by decide +kernel
theorem dL_isRoom_123 : decode cL_isRoom 123 = .ok (.bipush 8, 2) := by decide +kernel
theorem dL_isRoom_125 : decode cL_isRoom 125 = .ok (.iload 6, 2) := by decide +kernel
theorem dL_isRoom_127 : decode cL_isRoom 127 = .ok (.imul, 1) := by decide +kernel
theorem dL_isRoom_128 : decode cL_isRoom 128 = .ok (.iaload, 1) := by decide +kernel
theorem dL_isRoom_129 : decode cL_isRoom 129 = .ok (.istore 9, 2) := by decide +kernel
theorem dL_isRoom_131 : decode cL_isRoom 131 = .ok (.iload 8, 2) := by decide +kernel
theorem dL_isRoom_133 : decode cL_isRoom 133 = .ok (.ifCond .eq 212, 3) := by decide +kernel
theorem dL_isRoom_136 : decode cL_isRoom 136 = .ok (.aload_n 0, 1) := by decide +kernel
theorem dL_isRoom_137 : decode cL_isRoom 137 = .ok (.iload 6, 2) := by decide +kernel
theorem dL_isRoom_139 : decode cL_isRoom 139 = .ok (.iconst 0, 1) := by decide +kernel
theorem dL_isRoom_140 : decode cL_isRoom 140 = .ok (.invokevirtual 98, 3) := by decide +kernel
theorem dL_isRoom_143 : decode cL_isRoom 143 = .ok (.aload_n 2, 1) := by decide +kernel
theorem dL_isRoom_144 : decode cL_isRoom 144 = .ok (.bipush 8, 2) := by decide +kernel
theorem dL_isRoom_146 : decode cL_isRoom 146 = .ok (.iload 6, 2) := by decide +kernel
theorem dL_isRoom_148 : decode cL_isRoom 148 = .ok (.imul, 1) := by decide +kernel
theorem dL_isRoom_149 : decode cL_isRoom 149 = .ok (.iaload, 1) := by decide +kernel
theorem dL_isRoom_150 : decode cL_isRoom 150 = .ok (.if_icmp .ne 195, 3) := by decide +kernel
theorem dL_isRoom_153 : decode cL_isRoom 153 = .ok (.aload_n 0, 1) := by decide +kernel
theorem dL_isRoom_154 : decode cL_isRoom 154 = .ok (.iload 6, 2) := by decide +kernel
theorem dL_isRoom_156 : decode cL_isRoom 156 = .ok (.iconst 1, 1) := by decide +kernel
theorem dL_isRoom_157 : decode cL_isRoom 157 = .ok (.invokevirtual 98, 3) := by decide +kernel
theorem dL_isRoom_160 : decode cL_isRoom 160 = .ok (.iload 9, 2) := by decide +kernel
theorem dL_isRoom_162 : decode cL_isRoom 162 = .ok (.if_icmp .ne 183, 3) := by decide +kernel
theorem dL_isRoom_165 : decode cL_isRoom 165 = .ok (.aload_n 0, 1) := by decide +kernel
theorem dL_isRoom_166 : decode cL_isRoom 166 = .ok (.iload 6, 2) := by decide +kernel
theorem dL_isRoom_168 : decode cL_isRoom 168 = .ok (.iconst 2, 1) := by decide +kernel
theorem dL_isRoom_169 : decode cL_isRoom 169 = .ok (.invokevirtual 98, 3) := by decide +kernel
theorem dL_isRoom_172 : decode cL_isRoom 172 = .ok (.aload_n 2, 1) := by decide +kernel
theorem dL_isRoom_173 : decode cL_isRoom 173 = .ok (.bipush 8, 2) := by decide +kernel
theorem dL_isRoom_175 : decode cL_isRoom 175 = .ok (.iload 6, 2) := by decide +kernel
theorem dL_isRoom_177 : decode cL_isRoom 177 = .ok (.imul, 1) := by decide +kernel
theorem dL_isRoom_178 : decode cL_isRoom 178 = .ok (.bipush 6, 2) := by decide +kernel
theorem dL_isRoom_180 : decode cL_isRoom 180 = .ok (.iadd, 1) := by decide +kernel
theorem dL_isRoom_181 : decode cL_isRoom 181 = .ok (.iaload, 1) := by decide +kernel
theorem dL_isRoom_182 : decode cL_isRoom 182 = .ok (.ifCond .ge 8, 3) := by decide +kernel
theorem dL_isRoom_185 : decode cL_isRoom 185 = .ok (.bipush (-4), 2) := by decide +kernel
theorem dL_isRoom_187 : decode cL_isRoom 187 = .ok (.goto 13, 3) := by decide +kernel
theorem dL_isRoom_190 : decode cL_isRoom 190 = .ok (.aload_n 2, 1) := by decide +kernel
theorem dL_isRoom_191 : decode cL_isRoom 191 = .ok (.bipush 8, 2) := by decide +kernel
theorem dL_isRoom_193 : decode cL_isRoom 193 = .ok (.iload 6, 2) := by decide +kernel
theorem dL_isRoom_195 : decode cL_isRoom 195 = .ok (.imul, 1) := by decide +kernel
theorem dL_isRoom_196 : decode cL_isRoom 196 = .ok (.bipush 6, 2) := by decide +kernel
theorem dL_isRoom_198 : decode cL_isRoom 198 = .ok (.iadd, 1) := by decide +kernel
theorem dL_isRoom_199 : decode cL_isRoom 199 = .ok (.iaload, 1) := by decide +kernel
theorem dL_isRoom_200 : decode cL_isRoom 200 = .ok (.if_icmp .ne 145, 3) := by decide +kernel
theorem dL_isRoom_203 : decode cL_isRoom 203 = .ok (.aload_n 0, 1) := by decide +kernel
theorem dL_isRoom_204 : decode cL_isRoom 204 = .ok (.iload 6, 2) := by decide +kernel
theorem dL_isRoom_206 : decode cL_isRoom 206 = .ok (.iconst 3, 1) := by decide +kernel
theorem dL_isRoom_207 : decode cL_isRoom 207 = .ok (.invokevirtual 98, 3) := by decide +kernel
theorem dL_isRoom_210 : decode cL_isRoom 210 = .ok (.aload_n 2, 1) := by decide +kernel
theorem dL_isRoom_211 : decode cL_isRoom 211 = .ok (.bipush 8, 2) := by decide +kernel
theorem dL_isRoom_213 : decode cL_isRoom 213 = .ok (.iload 6, 2) := by decide +kernel
theorem dL_isRoom_215 : decode cL_isRoom 215 = .ok (.imul, 1) := by decide +kernel
theorem dL_isRoom_216 : decode cL_isRoom 216 = .ok (.bipush 7, 2) := by decide +kernel
theorem dL_isRoom_218 : decode cL_isRoom 218 = .ok (.iadd, 1) := by decide +kernel
theorem dL_isRoom_219 : decode cL_isRoom 219 = .ok (.iaload, 1) := by decide +kernel
theorem dL_isRoom_220 : decode cL_isRoom 220 = .ok (.ifCond .ge 8, 3) := by decide +kernel
theorem dL_isRoom_223 : decode cL_isRoom 223 = .ok (.bipush (-4), 2) := by decide +kernel
theorem dL_isRoom_225 : decode cL_isRoom 225 = .ok (.goto 13, 3) := by decide +kernel
theorem dL_isRoom_228 : decode cL_isRoom 228 = .ok (.aload_n 2, 1) := by decide +kernel
theorem dL_isRoom_229 : decode cL_isRoom 229 = .ok (.bipush 8, 2) := by decide +kernel
theorem dL_isRoom_231 : decode cL_isRoom 231 = .ok (.iload 6, 2) := by decide +kernel
theorem dL_isRoom_233 : decode cL_isRoom 233 = .ok (.imul, 1) := by decide +kernel
theorem dL_isRoom_234 : decode cL_isRoom 234 = .ok (.bipush 7, 2) := by decide +kernel
theorem dL_isRoom_236 : decode cL_isRoom 236 = .ok (.iadd, 1) := by decide +kernel
theorem dL_isRoom_237 : decode cL_isRoom 237 = .ok (.iaload, 1) := by decide +kernel
theorem dL_isRoom_238 : decode cL_isRoom 238 = .ok (.if_icmp .ne 107, 3) := by decide +kernel
theorem dL_isRoom_241 : decode cL_isRoom 241 = .ok (.aload_n 0, 1) := by decide +kernel
theorem dL_isRoom_242 : decode cL_isRoom 242 = .ok (.iload 6, 2) := by decide +kernel
theorem dL_isRoom_244 : decode cL_isRoom 244 = .ok (.iconst 4, 1) := by decide +kernel
theorem dL_isRoom_245 : decode cL_isRoom 245 = .ok (.invokevirtual 98, 3) := by decide +kernel
theorem dL_isRoom_248 : decode cL_isRoom 248 = .ok (.iload 9, 2) := by decide +kernel
theorem dL_isRoom_250 : decode cL_isRoom 250 = .ok (.iconst 2, 1) := by decide +kernel
theorem dL_isRoom_251 : decode cL_isRoom 251 = .ok (.irem, 1) := by decide +kernel
theorem dL_isRoom_252 : decode cL_isRoom 252 = .ok (.iconst 1, 1) := by decide +kernel
theorem dL_isRoom_253 : decode cL_isRoom 253 = .ok (.if_icmp .ne 15, 3) := by decide +kernel
theorem dL_isRoom_256 : decode cL_isRoom 256 = .ok (.aload_n 3, 1) := by decide +kernel
theorem dL_isRoom_257 : decode cL_isRoom 257 = .ok (.bipush 8, 2) := by decide +kernel
theorem dL_isRoom_259 : decode cL_isRoom 259 = .ok (.iload 6, 2) := by decide +kernel
theorem dL_isRoom_261 : decode cL_isRoom 261 = .ok (.imul, 1) := by decide +kernel
theorem dL_isRoom_262 : decode cL_isRoom 262 = .ok (.iconst 1, 1) := by decide +kernel
theorem dL_isRoom_263 : decode cL_isRoom 263 = .ok (.iadd, 1) := by decide +kernel
theorem dL_isRoom_264 : decode cL_isRoom 264 = .ok (.iaload, 1) := by decide +kernel
theorem dL_isRoom_265 : decode cL_isRoom 265 = .ok (.goto 4, 3) := by decide +kernel
theorem dL_isRoom_268 : decode cL_isRoom 268 = .ok (.iconst 0, 1) := by decide +kernel
theorem dL_isRoom_269 : decode cL_isRoom 269 = .ok (.if_icmp .ne 76, 3) := by decide +kernel
theorem dL_isRoom_272 : decode cL_isRoom 272 = .ok (.aload_n 0, 1) := by decide +kernel
theorem dL_isRoom_273 : decode cL_isRoom 273 = .ok (.iload 6, 2) := by decide +kernel
theorem dL_isRoom_275 : decode cL_isRoom 275 = .ok (.iconst 5, 1) := by decide +kernel
theorem dL_isRoom_276 : decode cL_isRoom 276 = .ok (.invokevirtual 98, 3) := by decide +kernel
theorem dL_isRoom_279 : decode cL_isRoom 279 = .ok (.iload 9, 2) := by decide +kernel
theorem dL_isRoom_281 : decode cL_isRoom 281 = .ok (.iconst 2, 1) := by decide +kernel
theorem dL_isRoom_282 : decode cL_isRoom 282 = .ok (.if_icmp .ne 15, 3) := by decide +kernel
theorem dL_isRoom_285 : decode cL_isRoom 285 = .ok (.aload_n 3, 1) := by decide +kernel
theorem dL_isRoom_286 : decode cL_isRoom 286 = .ok (.bipush 8, 2) := by decide +kernel
theorem dL_isRoom_288 : decode cL_isRoom 288 = .ok (.iload 6, 2) := by decide +kernel
theorem dL_isRoom_290 : decode cL_isRoom 290 = .ok (.imul, 1) := by decide +kernel
theorem dL_isRoom_291 : decode cL_isRoom 291 = .ok (.iconst 2, 1) := by decide +kernel
theorem dL_isRoom_292 : decode cL_isRoom 292 = .ok (.iadd, 1) := by decide +kernel
theorem dL_isRoom_293 : decode cL_isRoom 293 = .ok (.iaload, 1) := by decide +kernel
theorem dL_isRoom_294 : decode cL_isRoom 294 = .ok (.goto 4, 3) := by decide +kernel
theorem dL_isRoom_297 : decode cL_isRoom 297 = .ok (.iconst 0, 1) := by decide +kernel
theorem dL_isRoom_298 : decode cL_isRoom 298 = .ok (.if_icmp .ne 47, 3) := by decide +kernel
theorem dL_isRoom_301 : decode cL_isRoom 301 = .ok (.aload_n 0, 1) := by decide +kernel
theorem dL_isRoom_302 : decode cL_isRoom 302 = .ok (.iload 6, 2) := by decide +kernel
theorem dL_isRoom_304 : decode cL_isRoom 304 = .ok (.bipush 6, 2) := by decide +kernel
theorem dL_isRoom_306 : decode cL_isRoom 306 = .ok (.invokevirtual 98, 3) := by decide +kernel
theorem dL_isRoom_309 : decode cL_isRoom 309 = .ok (.aload_n 3, 1) := by decide +kernel
theorem dL_isRoom_310 : decode cL_isRoom 310 = .ok (.bipush 8, 2) := by decide +kernel
theorem dL_isRoom_312 : decode cL_isRoom 312 = .ok (.iload 6, 2) := by decide +kernel
theorem dL_isRoom_314 : decode cL_isRoom 314 = .ok (.imul, 1) := by decide +kernel
theorem dL_isRoom_315 : decode cL_isRoom 315 = .ok (.iconst 3, 1) := by decide +kernel
theorem dL_isRoom_316 : decode cL_isRoom 316 = .ok (.iadd, 1) := by decide +kernel
theorem dL_isRoom_317 : decode cL_isRoom 317 = .ok (.iaload, 1) := by decide +kernel
theorem dL_isRoom_318 : decode cL_isRoom 318 = .ok (.if_icmp .ne 27, 3) := by decide +kernel
theorem dL_isRoom_321 : decode cL_isRoom 321 = .ok (.aload_n 0, 1) := by decide +kernel
theorem dL_isRoom_322 : decode cL_isRoom 322 = .ok (.iload 6, 2) := by decide +kernel
theorem dL_isRoom_324 : decode cL_isRoom 324 = .ok (.bipush 7, 2) := by decide +kernel
theorem dL_isRoom_326 : decode cL_isRoom 326 = .ok (.invokevirtual 98, 3) := by decide +kernel
theorem dL_isRoom_329 : decode cL_isRoom 329 = .ok (.aload_n 3, 1) := by decide +kernel
theorem dL_isRoom_330 : decode cL_isRoom 330 = .ok (.bipush 8, 2) := by decide +kernel
theorem dL_isRoom_332 : decode cL_isRoom 332 = .ok (.iload 6, 2) := by decide +kernel
theorem dL_isRoom_334 : decode cL_isRoom 334 = .ok (.imul, 1) := by decide +kernel
theorem dL_isRoom_335 : decode cL_isRoom 335 = .ok (.iconst 4, 1) := by decide +kernel
theorem dL_isRoom_336 : decode cL_isRoom 336 = .ok (.iadd, 1) := by decide +kernel
theorem dL_isRoom_337 : decode cL_isRoom 337 = .ok (.iaload, 1) := by decide +kernel
theorem dL_isRoom_338 : decode cL_isRoom 338 = .ok (.if_icmp .ne 7, 3) := by decide +kernel
theorem dL_isRoom_341 : decode cL_isRoom 341 = .ok (.iconst 1, 1) := by decide +kernel
theorem dL_isRoom_342 : decode cL_isRoom 342 = .ok (.goto 4, 3) := by decide +kernel
theorem dL_isRoom_345 : decode cL_isRoom 345 = .ok (.iconst 0, 1) := by decide +kernel
theorem dL_isRoom_346 : decode cL_isRoom 346 = .ok (.istore 8, 2) := by decide +kernel
theorem dL_isRoom_348 : decode cL_isRoom 348 = .ok (.iload 8, 2) := by decide +kernel
theorem dL_isRoom_350 : decode cL_isRoom 350 = .ok (.ifCond .eq 233, 3) := by decide +kernel
theorem dL_isRoom_353 : decode cL_isRoom 353 = .ok (.aload_n 0, 1) := by decide +kernel
theorem dL_isRoom_354 : decode cL_isRoom 354 = .ok (.iload 6, 2) := by decide +kernel
theorem dL_isRoom_356 : decode cL_isRoom 356 = .ok (.bipush 8, 2) := by decide +kernel
theorem dL_isRoom_358 : decode cL_isRoom 358 = .ok (.invokevirtual 98, 3) := by decide +kernel
theorem dL_isRoom_361 : decode cL_isRoom 361 = .ok (.iload 7, 2) := by decide +kernel
theorem dL_isRoom_363 : decode cL_isRoom 363 = .ok (.if_icmp .ne 220, 3) := by decide +kernel
theorem dL_isRoom_366 : decode cL_isRoom 366 = .ok (.aload_n 0, 1) := by decide +kernel
theorem dL_isRoom_367 : decode cL_isRoom 367 = .ok (.iload 6, 2) := by decide +kernel
theorem dL_isRoom_369 : decode cL_isRoom 369 = .ok (.bipush 9, 2) := by decide +kernel
theorem dL_isRoom_371 : decode cL_isRoom 371 = .ok (.invokevirtual 98, 3) := by decide +kernel
theorem dL_isRoom_374 : decode cL_isRoom 374 = .ok (.aload_n 3, 1) := by decide +kernel
theorem dL_isRoom_375 : decode cL_isRoom 375 = .ok (.bipush 8, 2) := by decide +kernel
theorem dL_isRoom_377 : decode cL_isRoom 377 = .ok (.iload 6, 2) := by decide +kernel
theorem dL_isRoom_379 : decode cL_isRoom 379 = .ok (.imul, 1) := by decide +kernel
theorem dL_isRoom_380 : decode cL_isRoom 380 = .ok (.iconst 5, 1) := by decide +kernel
theorem dL_isRoom_381 : decode cL_isRoom 381 = .ok (.iadd, 1) := by decide +kernel
theorem dL_isRoom_382 : decode cL_isRoom 382 = .ok (.iaload, 1) := by decide +kernel
theorem dL_isRoom_383 : decode cL_isRoom 383 = .ok (.if_icmp .ne 200, 3) := by decide +kernel
theorem dL_isRoom_386 : decode cL_isRoom 386 = .ok (.aload_n 0, 1) := by decide +kernel
theorem dL_isRoom_387 : decode cL_isRoom 387 = .ok (.iload 6, 2) := by decide +kernel
theorem dL_isRoom_389 : decode cL_isRoom 389 = .ok (.bipush 10, 2) := by decide +kernel
theorem dL_isRoom_391 : decode cL_isRoom 391 = .ok (.invokevirtual 98, 3) := by decide +kernel
theorem dL_isRoom_394 : decode cL_isRoom 394 = .ok (.aload_n 3, 1) := by decide +kernel
theorem dL_isRoom_395 : decode cL_isRoom 395 = .ok (.bipush 8, 2) := by decide +kernel
theorem dL_isRoom_397 : decode cL_isRoom 397 = .ok (.iload 6, 2) := by decide +kernel
theorem dL_isRoom_399 : decode cL_isRoom 399 = .ok (.imul, 1) := by decide +kernel
theorem dL_isRoom_400 : decode cL_isRoom 400 = .ok (.bipush 6, 2) := by decide +kernel
theorem dL_isRoom_402 : decode cL_isRoom 402 = .ok (.iadd, 1) := by decide +kernel
theorem dL_isRoom_403 : decode cL_isRoom 403 = .ok (.iaload, 1) := by decide +kernel
theorem dL_isRoom_404 : decode cL_isRoom 404 = .ok (.if_icmp .ne 179, 3) := by decide +kernel
theorem dL_isRoom_407 : decode cL_isRoom 407 = .ok (.aload_n 0, 1) := by decide +kernel
theorem dL_isRoom_408 : decode cL_isRoom 408 = .ok (.iload 6, 2) := by decide +kernel
theorem dL_isRoom_410 : decode cL_isRoom 410 = .ok (.bipush 11, 2) := by decide +kernel
theorem dL_isRoom_412 : decode cL_isRoom 412 = .ok (.invokevirtual 98, 3) := by decide +kernel
theorem dL_isRoom_415 : decode cL_isRoom 415 = .ok (.aload_n 3, 1) := by decide +kernel
theorem dL_isRoom_416 : decode cL_isRoom 416 = .ok (.bipush 8, 2) := by decide +kernel
theorem dL_isRoom_418 : decode cL_isRoom 418 = .ok (.iload 6, 2) := by decide +kernel
theorem dL_isRoom_420 : decode cL_isRoom 420 = .ok (.imul, 1) := by decide +kernel
theorem dL_isRoom_421 : decode cL_isRoom 421 = .ok (.bipush 7, 2) := by decide +kernel
theorem dL_isRoom_423 : decode cL_isRoom 423 = .ok (.iadd, 1) := by decide +kernel
theorem dL_isRoom_424 : decode cL_isRoom 424 = .ok (.iaload, 1) := by decide +kernel
theorem dL_isRoom_425 : decode cL_isRoom 425 = .ok (.if_icmp .ne 158, 3) := by decide +kernel
theorem dL_isRoom_428 : decode cL_isRoom 428 = .ok (.aload_n 0, 1) := by decide +kernel
theorem dL_isRoom_429 : decode cL_isRoom 429 = .ok (.iload 6, 2) := by decide +kernel
theorem dL_isRoom_431 : decode cL_isRoom 431 = .ok (.bipush 12, 2) := by decide +kernel
theorem dL_isRoom_433 : decode cL_isRoom 433 = .ok (.invokevirtual 98, 3) := by decide +kernel
theorem dL_isRoom_436 : decode cL_isRoom 436 = .ok (.aload_n 1, 1) := by decide +kernel
theorem dL_isRoom_437 : decode cL_isRoom 437 = .ok (.aload_n 2, 1) := by decide +kernel
theorem dL_isRoom_438 : decode cL_isRoom 438 = .ok (.aload_n 3, 1) := by decide +kernel
theorem dL_isRoom_439 : decode cL_isRoom 439 = .ok (.aload 4, 2) := by decide +kernel
theorem dL_isRoom_441 : decode cL_isRoom 441 = .ok (.aload 5, 2) := by decide +kernel
theorem dL_isRoom_443 : decode cL_isRoom 443 = .ok (.iload 6, 2) := by decide +kernel
theorem dL_isRoom_445 : decode cL_isRoom 445 = .ok (.invokestatic 23, 3) := by decide +kernel
theorem dL_isRoom_448 : decode cL_isRoom 448 = .ok (.ifCond .eq 7, 3) := by decide +kernel
theorem dL_isRoom_451 : decode cL_isRoom 451 = .ok (.iconst 1, 1) := by decide +kernel
theorem dL_isRoom_452 : decode cL_isRoom 452 = .ok (.goto 4, 3) := by decide +kernel
theorem dL_isRoom_455 : decode cL_isRoom 455 = .ok (.iconst 0, 1) := by decide +kernel
theorem dL_isRoom_456 : decode cL_isRoom 456 = .ok (.if_icmp .ne 127, 3) := by decide +kernel
theorem dL_isRoom_459 : decode cL_isRoom 459 = .ok (.aload_n 0, 1) := by decide +kernel
theorem dL_isRoom_460 : decode cL_isRoom 460 = .ok (.iload 6, 2) := by decide +kernel
theorem dL_isRoom_462 : decode cL_isRoom 462 = .ok (.bipush 13, 2) := by decide +kernel
theorem dL_isRoom_464 : decode cL_isRoom 464 = .ok (.invokevirtual 98, 3) := by decide +kernel
theorem dL_isRoom_467 : decode cL_isRoom 467 = .ok (.aload_n 3, 1) := by decide +kernel
theorem dL_isRoom_468 : decode cL_isRoom 468 = .ok (.bipush 8, 2) := by decide +kernel
theorem dL_isRoom_470 : decode cL_isRoom 470 = .ok (.iload 6, 2) := by decide +kernel
theorem dL_isRoom_472 : decode cL_isRoom 472 = .ok (.imul, 1) := by decide +kernel
theorem dL_isRoom_473 : decode cL_isRoom 473 = .ok (.iconst 5, 1) := by decide +kernel
theorem dL_isRoom_474 : decode cL_isRoom 474 = .ok (.iadd, 1) := by decide +kernel
theorem dL_isRoom_475 : decode cL_isRoom 475 = .ok (.iaload, 1) := by decide +kernel
theorem dL_isRoom_476 : decode cL_isRoom 476 = .ok (.iconst 2, 1) := by decide +kernel
theorem dL_isRoom_477 : decode cL_isRoom 477 = .ok (.if_icmp .ge 8, 3) := by decide +kernel
theorem dL_isRoom_480 : decode cL_isRoom 480 = .ok (.bipush (-4), 2) := by decide +kernel
theorem dL_isRoom_482 : decode cL_isRoom 482 = .ok (.goto 13, 3) := by decide +kernel
theorem dL_isRoom_485 : decode cL_isRoom 485 = .ok (.aload 4, 2) := by decide +kernel
theorem dL_isRoom_487 : decode cL_isRoom 487 = .ok (.bipush 33, 2) := by decide +kernel
theorem dL_isRoom_489 : decode cL_isRoom 489 = .ok (.iconst 2, 1) := by decide +kernel
theorem dL_isRoom_490 : decode cL_isRoom 490 = .ok (.iload 6, 2) := by decide +kernel
theorem dL_isRoom_492 : decode cL_isRoom 492 = .ok (.imul, 1) := by decide +kernel
theorem dL_isRoom_493 : decode cL_isRoom 493 = .ok (.iadd, 1) := by decide +kernel
theorem dL_isRoom_494 : decode cL_isRoom 494 = .ok (.iaload, 1) := by decide +kernel
theorem dL_isRoom_495 : decode cL_isRoom 495 = .ok (.if_icmp .ne 88, 3) := by decide +kernel
theorem dL_isRoom_498 : decode cL_isRoom 498 = .ok (.aload_n 0, 1) := by decide +kernel
theorem dL_isRoom_499 : decode cL_isRoom 499 = .ok (.iload 6, 2) := by decide +kernel
theorem dL_isRoom_501 : decode cL_isRoom 501 = .ok (.bipush 14, 2) := by decide +kernel
theorem dL_isRoom_503 : decode cL_isRoom 503 = .ok (.invokevirtual 98, 3) := by decide +kernel
theorem dL_isRoom_506 : decode cL_isRoom 506 = .ok (.iconst (-1), 1) := by decide +kernel
theorem dL_isRoom_507 : decode cL_isRoom 507 = .ok (.if_icmp .ne 76, 3) := by decide +kernel
theorem dL_isRoom_510 : decode cL_isRoom 510 = .ok (.aload_n 0, 1) := by decide +kernel
theorem dL_isRoom_511 : decode cL_isRoom 511 = .ok (.iload 6, 2) := by decide +kernel
theorem dL_isRoom_513 : decode cL_isRoom 513 = .ok (.iconst 5, 1) := by decide +kernel
theorem dL_isRoom_514 : decode cL_isRoom 514 = .ok (.invokevirtual 92, 3) := by decide +kernel
theorem dL_isRoom_517 : decode cL_isRoom 517 = .ok (.iconst (-1), 1) := by decide +kernel
theorem dL_isRoom_518 : decode cL_isRoom 518 = .ok (.if_icmp .ne 65, 3) := by decide +kernel
theorem dL_isRoom_521 : decode cL_isRoom 521 = .ok (.aload_n 0, 1) := by decide +kernel
theorem dL_isRoom_522 : decode cL_isRoom 522 = .ok (.iload 6, 2) := by decide +kernel
theorem dL_isRoom_524 : decode cL_isRoom 524 = .ok (.iconst 4, 1) := by decide +kernel
theorem dL_isRoom_525 : decode cL_isRoom 525 = .ok (.invokevirtual 95, 3) := by decide +kernel
theorem dL_isRoom_528 : decode cL_isRoom 528 = .ok (.aload 4, 2) := by decide +kernel
theorem dL_isRoom_530 : decode cL_isRoom 530 = .ok (.iconst 4, 1) := by decide +kernel
theorem dL_isRoom_531 : decode cL_isRoom 531 = .ok (.iload 6, 2) := by decide +kernel
theorem dL_isRoom_533 : decode cL_isRoom 533 = .ok (.imul, 1) := by decide +kernel
theorem dL_isRoom_534 : decode cL_isRoom 534 = .ok (.iaload, 1) := by decide +kernel
theorem dL_isRoom_535 : decode cL_isRoom 535 = .ok (.aload 4, 2) := by decide +kernel
theorem dL_isRoom_537 : decode cL_isRoom 537 = .ok (.iconst 4, 1) := by decide +kernel
theorem dL_isRoom_538 : decode cL_isRoom 538 = .ok (.iload 6, 2) := by decide +kernel
theorem dL_isRoom_540 : decode cL_isRoom 540 = .ok (.imul, 1) := by decide +kernel
theorem dL_isRoom_541 : decode cL_isRoom 541 = .ok (.iconst 1, 1) := by decide +kernel
theorem dL_isRoom_542 : decode cL_isRoom 542 = .ok (.iadd, 1) := by decide +kernel
theorem dL_isRoom_543 : decode cL_isRoom 543 = .ok (.iaload, 1) := by decide +kernel
theorem dL_isRoom_544 : decode cL_isRoom 544 = .ok (.iadd, 1) := by decide +kernel
theorem dL_isRoom_545 : decode cL_isRoom 545 = .ok (.aload 4, 2) := by decide +kernel
theorem dL_isRoom_547 : decode cL_isRoom 547 = .ok (.iconst 4, 1) := by decide +kernel
theorem dL_isRoom_548 : decode cL_isRoom 548 = .ok (.iload 6, 2) := by decide +kernel
theorem dL_isRoom_550 : decode cL_isRoom 550 = .ok (.imul, 1) := by decide +kernel
theorem dL_isRoom_551 : decode cL_isRoom 551 = .ok (.iconst 2, 1) := by decide +kernel
theorem dL_isRoom_552 : decode cL_isRoom 552 = .ok (.iadd, 1) := by decide +kernel
theorem dL_isRoom_553 : decode cL_isRoom 553 = .ok (.iaload, 1) := by decide +kernel
theorem dL_isRoom_554 : decode cL_isRoom 554 = .ok (.iadd, 1) := by decide +kernel
theorem dL_isRoom_555 : decode cL_isRoom 555 = .ok (.aload 4, 2) := by decide +kernel
theorem dL_isRoom_557 : decode cL_isRoom 557 = .ok (.iconst 4, 1) := by decide +kernel
theorem dL_isRoom_558 : decode cL_isRoom 558 = .ok (.iload 6, 2) := by decide +kernel
theorem dL_isRoom_560 : decode cL_isRoom 560 = .ok (.imul, 1) := by decide +kernel
theorem dL_isRoom_561 : decode cL_isRoom 561 = .ok (.iconst 3, 1) := by decide +kernel
theorem dL_isRoom_562 : decode cL_isRoom 562 = .ok (.iadd, 1) := by decide +kernel
theorem dL_isRoom_563 : decode cL_isRoom 563 = .ok (.iaload, 1) := by decide +kernel
theorem dL_isRoom_564 : decode cL_isRoom 564 = .ok (.iadd, 1) := by decide +kernel
theorem dL_isRoom_565 : decode cL_isRoom 565 = .ok (.if_icmp .ne 18, 3) := by decide +kernel
theorem dL_isRoom_568 : decode cL_isRoom 568 = .ok (.aload_n 0, 1) := by decide +kernel
theorem dL_isRoom_569 : decode cL_isRoom 569 = .ok (.iload 6, 2) := by decide +kernel
theorem dL_isRoom_571 : decode cL_isRoom 571 = .ok (.iconst 5, 1) := by decide +kernel
theorem dL_isRoom_572 : decode cL_isRoom 572 = .ok (.invokevirtual 95, 3) := by decide +kernel
theorem dL_isRoom_575 : decode cL_isRoom 575 = .ok (.iconst (-1), 1) := by decide +kernel
theorem dL_isRoom_576 : decode cL_isRoom 576 = .ok (.if_icmp .ne 7, 3) := by decide +kernel
theorem dL_isRoom_579 : decode cL_isRoom 579 = .ok (.iconst 1, 1) := by decide +kernel
theorem dL_isRoom_580 : decode cL_isRoom 580 = .ok (.goto 4, 3) := by decide +kernel
theorem dL_isRoom_583 : decode cL_isRoom 583 = .ok (.iconst 0, 1) := by decide +kernel
theorem dL_isRoom_584 : decode cL_isRoom 584 = .ok (.ireturn, 1) := by decide +kernel
set_option maxRecDepth 20000 in
theorem ggL_isSo_L_isRoom : GoodIn wsL_isSo wsL_isRoom := goodIn_sub (List.forall_mem_cons.mpr ⟨List.mem_of_getElem? (i := 5) rfl, List.forall_mem_cons.mpr ⟨List.mem_of_getElem? (i := 6) rfl, List.forall_mem_cons.mpr ⟨List.mem_of_getElem? (i := 7) rfl, List.forall_mem_cons.mpr ⟨List.mem_of_getElem? (i := 8) rfl, List.forall_mem_cons.mpr ⟨List.mem_of_getElem? (i := 9) rfl, List.forall_mem_cons.mpr ⟨List.mem_of_getElem? (i := 10) rfl, List.forall_mem_cons.mpr ⟨List.mem_of_getElem? (i := 11) rfl, List.forall_mem_cons.mpr ⟨List.mem_of_getElem? (i := 12) rfl, List.forall_mem_cons.mpr ⟨List.mem_of_getElem? (i := 13) rfl, List.forall_mem_cons.mpr ⟨List.mem_of_getElem? (i := 14) rfl, List.forall_mem_cons.mpr ⟨List.mem_of_getElem? (i := 15) rfl, List.forall_mem_cons.mpr ⟨List.mem_of_getElem? (i := 16) rfl, List.forall_mem_cons.mpr ⟨List.mem_of_getElem? (i := 17) rfl, List.forall_mem_cons.mpr ⟨List.mem_of_getElem? (i := 18) rfl, List.forall_mem_cons.mpr ⟨List.mem_of_getElem? (i := 19) rfl, List.forall_mem_cons.mpr ⟨List.mem_of_getElem? (i := 20) rfl, List.forall_mem_cons.mpr ⟨List.mem_of_getElem? (i := 21) rfl, List.forall_mem_cons.mpr ⟨List.mem_of_getElem? (i := 22) rfl, List.forall_mem_cons.mpr ⟨List.mem_of_getElem? (i := 23) rfl, List.forall_mem_cons.mpr ⟨List.mem_of_getElem? (i := 24) rfl, List.forall_mem_cons.mpr ⟨List.mem_of_getElem? (i := 25) rfl, List.forall_mem_cons.mpr ⟨List.mem_of_getElem? (i := 26) rfl, List.forall_mem_cons.mpr ⟨List.mem_of_getElem? (i := 27) rfl, List.forall_mem_cons.mpr ⟨List.mem_of_getElem? (i := 28) rfl, List.forall_mem_cons.mpr ⟨List.mem_of_getElem? (i := 29) rfl, List.forall_mem_cons.mpr ⟨List.mem_of_getElem? (i := 30) rfl, List.forall_mem_cons.mpr ⟨List.mem_of_getElem? (i := 31) rfl, List.forall_mem_cons.mpr ⟨List.mem_of_getElem? (i := 32) rfl, List.forall_mem_cons.mpr ⟨List.mem_of_getElem? (i := 33) rfl, List.forall_mem_cons.mpr ⟨List.mem_of_getElem? (i := 34) rfl, List.forall_mem_cons.mpr ⟨List.mem_of_getElem? (i := 35) rfl, List.forall_mem_cons.mpr ⟨List.mem_of_getElem? (i := 36) rfl, List.forall_mem_cons.mpr ⟨List.mem_of_getElem? (i := 37) rfl, List.forall_mem_cons.mpr ⟨List.mem_of_getElem? (i := 38) rfl, List.forall_mem_cons.mpr ⟨List.mem_of_getElem? (i := 39) rfl, List.forall_mem_cons.mpr ⟨List.mem_of_getElem? (i := 40) rfl, List.forall_mem_cons.mpr ⟨List.mem_of_getElem? (i := 41) rfl, List.forall_mem_cons.mpr ⟨List.mem_of_getElem? (i := 42) rfl, List.forall_mem_cons.mpr ⟨List.mem_of_getElem? (i := 43) rfl, List.forall_mem_cons.mpr ⟨List.mem_of_getElem? (i := 44) rfl, List.forall_mem_cons.mpr ⟨List.mem_of_getElem? (i := 45) rfl, List.forall_mem_cons.mpr ⟨List.mem_of_getElem? (i := 46) rfl, List.forall_mem_cons.mpr ⟨List.mem_of_getElem? (i := 47) rfl, List.forall_mem_cons.mpr ⟨List.mem_of_getElem? (i := 48) rfl, List.forall_mem_cons.mpr ⟨List.mem_of_getElem? (i := 49) rfl, List.forall_mem_cons.mpr ⟨List.mem_of_getElem? (i := 50) rfl, List.forall_mem_cons.mpr ⟨List.mem_of_getElem? (i := 51) rfl, List.forall_mem_cons.mpr ⟨List.mem_of_getElem? (i := 52) rfl, List.forall_mem_cons.mpr ⟨List.mem_of_getElem? (i := 53) rfl, List.forall_mem_cons.mpr ⟨List.mem_of_getElem? (i := 54) rfl, List.forall_mem_cons.mpr ⟨List.mem_of_getElem? (i := 55) rfl, List.forall_mem_cons.mpr ⟨List.mem_of_getElem? (i := 56) rfl, List.forall_mem_cons.mpr ⟨List.mem_of_getElem? (i := 57) rfl, List.forall_mem_cons.mpr ⟨List.mem_of_getElem? (i := 58) rfl, List.forall_mem_cons.mpr ⟨List.mem_of_getElem? (i := 59) rfl, List.forall_mem_cons.mpr ⟨List.mem_of_getElem? (i := 60) rfl, List.forall_mem_cons.mpr ⟨List.mem_of_getElem? (i := 61) rfl, List.forall_mem_cons.mpr ⟨List.mem_of_getElem? (i := 62) rfl, List.forall_mem_cons.mpr ⟨List.mem_of_getElem? (i := 63) rfl, List.forall_mem_cons.mpr ⟨List.mem_of_getElem? (i := 64) rfl, List.forall_mem_cons.mpr ⟨List.mem_of_getElem? (i := 65) rfl, List.forall_mem_cons.mpr ⟨List.mem_of_getElem? (i := 66) rfl, List.forall_mem_cons.mpr ⟨List.mem_of_getElem? (i := 67) rfl, List.forall_mem_cons.mpr ⟨List.mem_of_getElem? (i := 68) rfl, List.forall_mem_cons.mpr ⟨List.mem_of_getElem? (i := 69) rfl, List.forall_mem_cons.mpr ⟨List.mem_of_getElem? (i := 70) rfl, List.forall_mem_cons.mpr ⟨List.mem_of_getElem? (i := 71) rfl, List.forall_mem_cons.mpr ⟨List.mem_of_getElem? (i := 72) rfl, List.forall_mem_cons.mpr ⟨List.mem_of_getElem? (i := 73) rfl, List.forall_mem_cons.mpr ⟨List.mem_of_getElem? (i := 74) rfl, List.forall_mem_cons.mpr ⟨List.mem_of_getElem? (i := 75) rfl, List.forall_mem_cons.mpr ⟨List.mem_of_getElem? (i := 76) rfl, List.forall_mem_cons.mpr ⟨List.mem_of_getElem? (i := 77) rfl, List.forall_mem_cons.mpr ⟨List.mem_of_getElem? (i := 78) rfl, List.forall_mem_cons.mpr ⟨List.mem_of_getElem? (i := 79) rfl, List.forall_mem_cons.mpr ⟨List.mem_of_getElem? (i := 80) rfl, List.forall_mem_cons.mpr ⟨List.mem_of_getElem? (i := 81) rfl, List.forall_mem_cons.mpr ⟨List.mem_of_getElem? (i := 82) rfl, List.forall_mem_cons.mpr ⟨List.mem_of_getElem? (i := 83) rfl, List.forall_mem_cons.mpr ⟨List.mem_of_getElem? (i := 84) rfl, List.forall_mem_cons.mpr ⟨List.mem_of_getElem? (i := 4) rfl, List.forall_mem_cons.mpr ⟨List.mem_of_getElem? (i := 85) rfl, List.forall_mem_cons.mpr ⟨List.mem_of_getElem? (i := 86) rfl, List.forall_mem_cons.mpr ⟨List.mem_of_getElem? (i := 87) rfl, List.forall_mem_cons.mpr ⟨List.mem_of_getElem? (i := 88) rfl, List.forall_mem_cons.mpr ⟨List.mem_of_getElem? (i := 89) rfl, List.forall_mem_cons.mpr ⟨List.mem_of_getElem? (i := 90) rfl, List.forall_mem_cons.mpr ⟨List.mem_of_getElem? (i := 91) rfl, List.forall_mem_cons.mpr ⟨List.mem_of_getElem? (i := 142) rfl, List.forall_mem_cons.mpr ⟨List.mem_of_getElem? (i := 143) rfl, List.forall_mem_cons.mpr ⟨List.mem_of_getElem? (i := 144) rfl, List.forall_mem_cons.mpr ⟨List.mem_of_getElem? (i := 145) rfl, List.forall_mem_cons.mpr ⟨List.mem_of_getElem? (i := 146) rfl, List.forall_mem_cons.mpr ⟨List.mem_of_getElem? (i := 147) rfl, List.forall_mem_cons.mpr ⟨List.mem_of_getElem? (i := 148) rfl, List.forall_mem_cons.mpr ⟨List.mem_of_getElem? (i := 149) rfl, List.forall_mem_cons.mpr ⟨List.mem_of_getElem? (i := 150) rfl, List.forall_mem_cons.mpr ⟨List.mem_of_getElem? (i := 151) rfl, List.forall_mem_cons.mpr ⟨List.mem_of_getElem? (i := 152) rfl, List.forall_mem_cons.mpr ⟨List.mem_of_getElem? (i := 153) rfl, List.forall_mem_cons.mpr ⟨List.mem_of_getElem? (i := 154) rfl, List.forall_mem_cons.mpr ⟨List.mem_of_getElem? (i := 155) rfl, List.forall_mem_cons.mpr ⟨List.mem_of_getElem? (i := 156) rfl, List.forall_mem_cons.mpr ⟨List.mem_of_getElem? (i := 157) rfl, List.forall_mem_cons.mpr ⟨List.mem_of_getElem? (i := 158) rfl, List.forall_mem_cons.mpr ⟨List.mem_of_getElem? (i := 159) rfl, List.forall_mem_cons.mpr ⟨List.mem_of_getElem? (i := 160) rfl, List.forall_mem_cons.mpr ⟨List.mem_of_getElem? (i := 161) rfl, List.forall_mem_cons.mpr ⟨List.mem_of_getElem? (i := 162) rfl, List.forall_mem_cons.mpr ⟨List.mem_of_getElem? (i := 163) rfl, List.forall_mem_cons.mpr ⟨List.mem_of_getElem? (i := 164) rfl, List.forall_mem_cons.mpr ⟨List.mem_of_getElem? (i := 165) rfl, List.forall_mem_cons.mpr ⟨List.mem_of_getElem? (i := 166) rfl, List.forall_mem_cons.mpr ⟨List.mem_of_getElem? (i := 167) rfl, List.forall_mem_cons.mpr ⟨List.mem_of_getElem? (i := 168) rfl, List.forall_mem_cons.mpr ⟨List.mem_of_getElem? (i := 169) rfl, wk_mn⟩⟩⟩⟩⟩⟩⟩⟩⟩⟩⟩⟩⟩⟩⟩⟩⟩⟩⟩⟩⟩⟩⟩⟩⟩⟩⟩⟩⟩⟩⟩⟩⟩⟩⟩⟩⟩⟩⟩⟩⟩⟩⟩⟩⟩⟩⟩⟩⟩⟩⟩⟩⟩⟩⟩⟩⟩⟩⟩⟩⟩⟩⟩⟩⟩⟩⟩⟩⟩⟩⟩⟩⟩⟩⟩⟩⟩⟩⟩⟩⟩⟩⟩⟩⟩⟩⟩⟩⟩⟩⟩⟩⟩⟩⟩⟩⟩⟩⟩⟩⟩⟩⟩⟩⟩⟩⟩⟩⟩⟩⟩⟩⟩⟩⟩⟩) (by decide +kernel)
set_option maxRecDepth 20000 in
theorem gL_isSo_L_isRoom : GoodIn wsL_isSo (va_wsS RL 101 yL_isRoom wsL_isRoom) := goodIn_app (goodIn_sub (List.forall_mem_cons.mpr ⟨List.mem_of_getElem? (i := 2) rfl, List.forall_mem_cons.mpr ⟨List.mem_of_getElem? (i := 3) rfl, List.forall_mem_cons.mpr ⟨List.mem_of_getElem? (i := 4) rfl, wk_mn⟩⟩⟩) (by decide +kernel)) ggL_isSo_L_isRoom
set_option maxRecDepth 20000 in
theorem ggL_isSo_X3_roomOf : GoodIn wsL_isSo wsX3_roomOf := goodIn_sub (List.forall_mem_cons.mpr ⟨List.mem_of_getElem? (i := 37) rfl, List.forall_mem_cons.mpr ⟨List.mem_of_getElem? (i := 11) rfl, List.forall_mem_cons.mpr ⟨List.mem_of_getElem? (i := 12) rfl, List.forall_mem_cons.mpr ⟨List.mem_of_getElem? (i := 14) rfl, List.forall_mem_cons.mpr ⟨List.mem_of_getElem? (i := 15) rfl, List.forall_mem_cons.mpr ⟨List.mem_of_getElem? (i := 16) rfl, List.forall_mem_cons.mpr ⟨List.mem_of_getElem? (i := 17) rfl, List.forall_mem_cons.mpr ⟨List.mem_of_getElem? (i := 18) rfl, List.forall_mem_cons.mpr ⟨List.mem_of_getElem? (i := 19) rfl, List.forall_mem_cons.mpr ⟨List.mem_of_getElem? (i := 20) rfl, List.forall_mem_cons.mpr ⟨List.mem_of_getElem? (i := 21) rfl, List.forall_mem_cons.mpr ⟨List.mem_of_getElem? (i := 9) rfl, List.forall_mem_cons.mpr ⟨List.mem_of_getElem? (i := 22) rfl, List.forall_mem_cons.mpr ⟨List.mem_of_getElem? (i := 38) rfl, List.forall_mem_cons.mpr ⟨List.mem_of_getElem? (i := 39) rfl, List.forall_mem_cons.mpr ⟨List.mem_of_getElem? (i := 40) rfl, List.forall_mem_cons.mpr ⟨List.mem_of_getElem? (i := 41) rfl, List.forall_mem_cons.mpr ⟨List.mem_of_getElem? (i := 42) rfl, List.forall_mem_cons.mpr ⟨List.mem_of_getElem? (i := 43) rfl, List.forall_mem_cons.mpr ⟨List.mem_of_getElem? (i := 44) rfl, List.forall_mem_cons.mpr ⟨List.mem_of_getElem? (i := 45) rfl, List.forall_mem_cons.mpr ⟨List.mem_of_getElem? (i := 46) rfl, List.forall_mem_cons.mpr ⟨List.mem_of_getElem? (i := 47) rfl, List.forall_mem_cons.mpr ⟨List.mem_of_getElem? (i := 48) rfl, List.forall_mem_cons.mpr ⟨List.mem_of_getElem? (i := 49) rfl, List.forall_mem_cons.mpr ⟨List.mem_of_getElem? (i := 50) rfl, List.forall_mem_cons.mpr ⟨List.mem_of_getElem? (i := 51) rfl, List.forall_mem_cons.mpr ⟨List.mem_of_getElem? (i := 52) rfl, List.forall_mem_cons.mpr ⟨List.mem_of_getElem? (i := 53) rfl, List.forall_mem_cons.mpr ⟨List.mem_of_getElem? (i := 54) rfl, List.forall_mem_cons.mpr ⟨List.mem_of_getElem? (i := 55) rfl, List.forall_mem_cons.mpr ⟨List.mem_of_getElem? (i := 56) rfl, List.forall_mem_cons.mpr ⟨List.mem_of_getElem? (i := 57) rfl, List.forall_mem_cons.mpr ⟨List.mem_of_getElem? (i := 58) rfl, List.forall_mem_cons.mpr ⟨List.mem_of_getElem? (i := 59) rfl, List.forall_mem_cons.mpr ⟨List.mem_of_getElem? (i := 60) rfl, List.forall_mem_cons.mpr ⟨List.mem_of_getElem? (i := 61) rfl, List.forall_mem_cons.mpr ⟨List.mem_of_getElem? (i := 62) rfl, List.forall_mem_cons.mpr ⟨List.mem_of_getElem? (i := 63) rfl, List.forall_mem_cons.mpr ⟨List.mem_of_getElem? (i := 31) rfl, List.forall_mem_cons.mpr ⟨List.mem_of_getElem? (i := 64) rfl, List.forall_mem_cons.mpr ⟨List.mem_of_getElem? (i := 65) rfl, List.forall_mem_cons.mpr ⟨List.mem_of_getElem? (i := 66) rfl, List.forall_mem_cons.mpr ⟨List.mem_of_getElem? (i := 67) rfl, List.forall_mem_cons.mpr ⟨List.mem_of_getElem? (i := 68) rfl, List.forall_mem_cons.mpr ⟨List.mem_of_getElem? (i := 69) rfl, List.forall_mem_cons.mpr ⟨List.mem_of_getElem? (i := 70) rfl, List.forall_mem_cons.mpr ⟨List.mem_of_getElem? (i := 71) rfl, List.forall_mem_cons.mpr ⟨List.mem_of_getElem? (i := 72) rfl, List.forall_mem_cons.mpr ⟨List.mem_of_getElem? (i := 73) rfl, List.forall_mem_cons.mpr ⟨List.mem_of_getElem? (i := 74) rfl, List.forall_mem_cons.mpr ⟨List.mem_of_getElem? (i := 75) rfl, List.forall_mem_cons.mpr ⟨List.mem_of_getElem? (i := 76) rfl, List.forall_mem_cons.mpr ⟨List.mem_of_getElem? (i := 77) rfl, List.forall_mem_cons.mpr ⟨List.mem_of_getElem? (i := 78) rfl, List.forall_mem_cons.mpr ⟨List.mem_of_getElem? (i := 79) rfl, List.forall_mem_cons.mpr ⟨List.mem_of_getElem? (i := 80) rfl, List.forall_mem_cons.mpr ⟨List.mem_of_getElem? (i := 81) rfl, List.forall_mem_cons.mpr ⟨List.mem_of_getElem? (i := 82) rfl, List.forall_mem_cons.mpr ⟨List.mem_of_getElem? (i := 142) rfl, List.forall_mem_cons.mpr ⟨List.mem_of_getElem? (i := 143) rfl, List.forall_mem_cons.mpr ⟨List.mem_of_getElem? (i := 144) rfl, List.forall_mem_cons.mpr ⟨List.mem_of_getElem? (i := 145) rfl, List.forall_mem_cons.mpr ⟨List.mem_of_getElem? (i := 146) rfl, List.forall_mem_cons.mpr ⟨List.mem_of_getElem? (i := 147) rfl, List.forall_mem_cons.mpr ⟨List.mem_of_getElem? (i := 148) rfl, List.forall_mem_cons.mpr ⟨List.mem_of_getElem? (i := 149) rfl, List.forall_mem_cons.mpr ⟨List.mem_of_getElem? (i := 150) rfl, List.forall_mem_cons.mpr ⟨List.mem_of_getElem? (i := 151) rfl, List.forall_mem_cons.mpr ⟨List.mem_of_getElem? (i := 152) rfl, List.forall_mem_cons.mpr ⟨List.mem_of_getElem? (i := 153) rfl, List.forall_mem_cons.mpr ⟨List.mem_of_getElem? (i := 154) rfl, List.forall_mem_cons.mpr ⟨List.mem_of_getElem? (i := 155) rfl, List.forall_mem_cons.mpr ⟨List.mem_of_getElem? (i := 156) rfl, List.forall_mem_cons.mpr ⟨List.mem_of_getElem? (i := 157) rfl, List.forall_mem_cons.mpr ⟨List.mem_of_getElem? (i := 158) rfl, List.forall_mem_cons.mpr ⟨List.mem_of_getElem? (i := 159) rfl, List.forall_mem_cons.mpr ⟨List.mem_of_getElem? (i := 160) rfl, List.forall_mem_cons.mpr ⟨List.mem_of_getElem? (i := 161) rfl, List.forall_mem_cons.mpr ⟨List.mem_of_getElem? (i := 162) rfl, List.forall_mem_cons.mpr ⟨List.mem_of_getElem? (i := 163) rfl, List.forall_mem_cons.mpr ⟨List.mem_of_getElem? (i := 164) rfl, List.forall_mem_cons.mpr ⟨List.mem_of_getElem? (i := 165) rfl, List.forall_mem_cons.mpr ⟨List.mem_of_getElem? (i := 166) rfl, List.forall_mem_cons.mpr ⟨List.mem_of_getElem? (i := 167) rfl, List.forall_mem_cons.mpr ⟨List.mem_of_getElem? (i := 168) rfl, List.forall_mem_cons.mpr ⟨List.mem_of_getElem? (i := 169) rfl, wk_mn⟩⟩⟩⟩⟩⟩⟩⟩⟩⟩⟩⟩⟩⟩⟩⟩⟩⟩⟩⟩⟩⟩⟩⟩⟩⟩⟩⟩⟩⟩⟩⟩⟩⟩⟩⟩⟩⟩⟩⟩⟩⟩⟩⟩⟩⟩⟩⟩⟩⟩⟩⟩⟩⟩⟩⟩⟩⟩⟩⟩⟩⟩⟩⟩⟩⟩⟩⟩⟩⟩⟩⟩⟩⟩⟩⟩⟩⟩⟩⟩⟩⟩⟩⟩⟩⟩⟩) (by decide +kernel)
set_option maxRecDepth 20000 in
theorem gL_isSo_X3_roomOf : GoodIn wsL_isSo (wsV RL 98 RX3 yX3_roomOf wsX3_roomOf) := goodIn_app (goodIn_sub (List.forall_mem_cons.mpr ⟨List.mem_of_getElem? (i := 34) rfl, List.forall_mem_cons.mpr ⟨List.mem_of_getElem? (i := 35) rfl, List.forall_mem_cons.mpr ⟨List.mem_of_getElem? (i := 36) rfl, List.forall_mem_cons.mpr ⟨List.mem_of_getElem? (i := 9) rfl, wk_mn⟩⟩⟩⟩) (by decide +kernel)) ggL_isSo_X3_roomOf
set_option maxRecDepth 20000 in
theorem ggL_isSo_X3_useOf : GoodIn wsL_isSo wsX3_useOf := goodIn_sub (List.forall_mem_cons.mpr ⟨List.mem_of_getElem? (i := 95) rfl, List.forall_mem_cons.mpr ⟨List.mem_of_getElem? (i := 11) rfl, List.forall_mem_cons.mpr ⟨List.mem_of_getElem? (i := 96) rfl, List.forall_mem_cons.mpr ⟨List.mem_of_getElem? (i := 97) rfl, List.forall_mem_cons.mpr ⟨List.mem_of_getElem? (i := 98) rfl, List.forall_mem_cons.mpr ⟨List.mem_of_getElem? (i := 99) rfl, List.forall_mem_cons.mpr ⟨List.mem_of_getElem? (i := 58) rfl, List.forall_mem_cons.mpr ⟨List.mem_of_getElem? (i := 59) rfl, List.forall_mem_cons.mpr ⟨List.mem_of_getElem? (i := 17) rfl, List.forall_mem_cons.mpr ⟨List.mem_of_getElem? (i := 60) rfl, List.forall_mem_cons.mpr ⟨List.mem_of_getElem? (i := 42) rfl, List.forall_mem_cons.mpr ⟨List.mem_of_getElem? (i := 20) rfl, List.forall_mem_cons.mpr ⟨List.mem_of_getElem? (i := 21) rfl, List.forall_mem_cons.mpr ⟨List.mem_of_getElem? (i := 9) rfl, List.forall_mem_cons.mpr ⟨List.mem_of_getElem? (i := 22) rfl, List.forall_mem_cons.mpr ⟨List.mem_of_getElem? (i := 100) rfl, List.forall_mem_cons.mpr ⟨List.mem_of_getElem? (i := 54) rfl, List.forall_mem_cons.mpr ⟨List.mem_of_getElem? (i := 55) rfl, List.forall_mem_cons.mpr ⟨List.mem_of_getElem? (i := 56) rfl, List.forall_mem_cons.mpr ⟨List.mem_of_getElem? (i := 43) rfl, List.forall_mem_cons.mpr ⟨List.mem_of_getElem? (i := 51) rfl, List.forall_mem_cons.mpr ⟨List.mem_of_getElem? (i := 142) rfl, List.forall_mem_cons.mpr ⟨List.mem_of_getElem? (i := 143) rfl, List.forall_mem_cons.mpr ⟨List.mem_of_getElem? (i := 144) rfl, List.forall_mem_cons.mpr ⟨List.mem_of_getElem? (i := 145) rfl, List.forall_mem_cons.mpr ⟨List.mem_of_getElem? (i := 146) rfl, List.forall_mem_cons.mpr ⟨List.mem_of_getElem? (i := 147) rfl, List.forall_mem_cons.mpr ⟨List.mem_of_getElem? (i := 148) rfl, List.forall_mem_cons.mpr ⟨List.mem_of_getElem? (i := 149) rfl, List.forall_mem_cons.mpr ⟨List.mem_of_getElem? (i := 150) rfl, List.forall_mem_cons.mpr ⟨List.mem_of_getElem? (i := 151) rfl, List.forall_mem_cons.mpr ⟨List.mem_of_getElem? (i := 152) rfl, List.forall_mem_cons.mpr ⟨List.mem_of_getElem? (i := 153) rfl, List.forall_mem_cons.mpr ⟨List.mem_of_getElem? (i := 154) rfl, wk_mn⟩⟩⟩⟩⟩⟩⟩⟩⟩⟩⟩⟩⟩⟩⟩⟩⟩⟩⟩⟩⟩⟩⟩⟩⟩⟩⟩⟩⟩⟩⟩⟩⟩⟩) (by decide +kernel)
set_option maxRecDepth 20000 in
theorem gL_isSo_X3_useOf : GoodIn wsL_isSo (wsV RL 105 RX3 yX3_useOf wsX3_useOf) := goodIn_app (goodIn_sub (List.forall_mem_cons.mpr ⟨List.mem_of_getElem? (i := 92) rfl, List.forall_mem_cons.mpr ⟨List.mem_of_getElem? (i := 93) rfl, List.forall_mem_cons.mpr ⟨List.mem_of_getElem? (i := 94) rfl, List.forall_mem_cons.mpr ⟨List.mem_of_getElem? (i := 9) rfl, wk_mn⟩⟩⟩⟩) (by decide +kernel)) ggL_isSo_X3_useOf
set_option maxRecDepth 20000 in
theorem ggL_isSo_L_first : GoodIn wsL_isSo wsL_first := goodIn_sub (List.forall_mem_cons.mpr ⟨List.mem_of_getElem? (i := 91) rfl, wk_mn⟩) (by decide +kernel)
set_option maxRecDepth 20000 in
theorem gL_isSo_L_first : GoodIn wsL_isSo (va_wsS RL 9 yL_first wsL_first) := goodIn_app (goodIn_sub (List.forall_mem_cons.mpr ⟨List.mem_of_getElem? (i := 89) rfl, List.forall_mem_cons.mpr ⟨List.mem_of_getElem? (i := 90) rfl, List.forall_mem_cons.mpr ⟨List.mem_of_getElem? (i := 4) rfl, wk_mn⟩⟩⟩) (by decide +kernel)) ggL_isSo_L_first
set_option maxRecDepth 20000 in
theorem ggL_isSo_X3_pluggedAt : GoodIn wsL_isSo wsX3_pluggedAt := goodIn_sub (List.forall_mem_cons.mpr ⟨List.mem_of_getElem? (i := 104) rfl, List.forall_mem_cons.mpr ⟨List.mem_of_getElem? (i := 11) rfl, List.forall_mem_cons.mpr ⟨List.mem_of_getElem? (i := 20) rfl, List.forall_mem_cons.mpr ⟨List.mem_of_getElem? (i := 21) rfl, List.forall_mem_cons.mpr ⟨List.mem_of_getElem? (i := 9) rfl, List.forall_mem_cons.mpr ⟨List.mem_of_getElem? (i := 22) rfl, List.forall_mem_cons.mpr ⟨List.mem_of_getElem? (i := 105) rfl, List.forall_mem_cons.mpr ⟨List.mem_of_getElem? (i := 106) rfl, List.forall_mem_cons.mpr ⟨List.mem_of_getElem? (i := 107) rfl, List.forall_mem_cons.mpr ⟨List.mem_of_getElem? (i := 17) rfl, List.forall_mem_cons.mpr ⟨List.mem_of_getElem? (i := 108) rfl, List.forall_mem_cons.mpr ⟨List.mem_of_getElem? (i := 19) rfl, List.forall_mem_cons.mpr ⟨List.mem_of_getElem? (i := 48) rfl, List.forall_mem_cons.mpr ⟨List.mem_of_getElem? (i := 109) rfl, List.forall_mem_cons.mpr ⟨List.mem_of_getElem? (i := 142) rfl, List.forall_mem_cons.mpr ⟨List.mem_of_getElem? (i := 143) rfl, List.forall_mem_cons.mpr ⟨List.mem_of_getElem? (i := 144) rfl, List.forall_mem_cons.mpr ⟨List.mem_of_getElem? (i := 145) rfl, List.forall_mem_cons.mpr ⟨List.mem_of_getElem? (i := 146) rfl, List.forall_mem_cons.mpr ⟨List.mem_of_getElem? (i := 147) rfl, List.forall_mem_cons.mpr ⟨List.mem_of_getElem? (i := 148) rfl, List.forall_mem_cons.mpr ⟨List.mem_of_getElem? (i := 149) rfl, List.forall_mem_cons.mpr ⟨List.mem_of_getElem? (i := 150) rfl, List.forall_mem_cons.mpr ⟨List.mem_of_getElem? (i := 151) rfl, List.forall_mem_cons.mpr ⟨List.mem_of_getElem? (i := 152) rfl, List.forall_mem_cons.mpr ⟨List.mem_of_getElem? (i := 153) rfl, List.forall_mem_cons.mpr ⟨List.mem_of_getElem? (i := 154) rfl, List.forall_mem_cons.mpr ⟨List.mem_of_getElem? (i := 155) rfl, List.forall_mem_cons.mpr ⟨List.mem_of_getElem? (i := 156) rfl, List.forall_mem_cons.mpr ⟨List.mem_of_getElem? (i := 157) rfl, List.forall_mem_cons.mpr ⟨List.mem_of_getElem? (i := 158) rfl, List.forall_mem_cons.mpr ⟨List.mem_of_getElem? (i := 159) rfl, List.forall_mem_cons.mpr ⟨List.mem_of_getElem? (i := 160) rfl, List.forall_mem_cons.mpr ⟨List.mem_of_getElem? (i := 161) rfl, List.forall_mem_cons.mpr ⟨List.mem_of_getElem? (i := 162) rfl, List.forall_mem_cons.mpr ⟨List.mem_of_getElem? (i := 163) rfl, List.forall_mem_cons.mpr ⟨List.mem_of_getElem? (i := 164) rfl, List.forall_mem_cons.mpr ⟨List.mem_of_getElem? (i := 165) rfl, List.forall_mem_cons.mpr ⟨List.mem_of_getElem? (i := 166) rfl, List.forall_mem_cons.mpr ⟨List.mem_of_getElem? (i := 167) rfl, List.forall_mem_cons.mpr ⟨List.mem_of_getElem? (i := 168) rfl, List.forall_mem_cons.mpr ⟨List.mem_of_getElem? (i := 169) rfl, wk_mn⟩⟩⟩⟩⟩⟩⟩⟩⟩⟩⟩⟩⟩⟩⟩⟩⟩⟩⟩⟩⟩⟩⟩⟩⟩⟩⟩⟩⟩⟩⟩⟩⟩⟩⟩⟩⟩⟩⟩⟩⟩⟩) (by decide +kernel)
set_option maxRecDepth 20000 in
theorem gL_isSo_X3_pluggedAt : GoodIn wsL_isSo (wsV RL 108 RX3 yX3_pluggedAt wsX3_pluggedAt) := goodIn_app (goodIn_sub (List.forall_mem_cons.mpr ⟨List.mem_of_getElem? (i := 101) rfl, List.forall_mem_cons.mpr ⟨List.mem_of_getElem? (i := 102) rfl, List.forall_mem_cons.mpr ⟨List.mem_of_getElem? (i := 103) rfl, List.forall_mem_cons.mpr ⟨List.mem_of_getElem? (i := 9) rfl, wk_mn⟩⟩⟩⟩) (by decide +kernel)) ggL_isSo_X3_pluggedAt
set_option maxRecDepth 20000 in
theorem ggL_isSo_X3_count : GoodIn wsL_isSo wsX3_count := goodIn_sub (List.forall_mem_cons.mpr ⟨List.mem_of_getElem? (i := 113) rfl, List.forall_mem_cons.mpr ⟨List.mem_of_getElem? (i := 114) rfl, List.forall_mem_cons.mpr ⟨List.mem_of_getElem? (i := 115) rfl, List.forall_mem_cons.mpr ⟨List.mem_of_getElem? (i := 116) rfl, List.forall_mem_cons.mpr ⟨List.mem_of_getElem? (i := 11) rfl, List.forall_mem_cons.mpr ⟨List.mem_of_getElem? (i := 117) rfl, List.forall_mem_cons.mpr ⟨List.mem_of_getElem? (i := 20) rfl, List.forall_mem_cons.mpr ⟨List.mem_of_getElem? (i := 21) rfl, List.forall_mem_cons.mpr ⟨List.mem_of_getElem? (i := 9) rfl, List.forall_mem_cons.mpr ⟨List.mem_of_getElem? (i := 22) rfl, List.forall_mem_cons.mpr ⟨List.mem_of_getElem? (i := 118) rfl, List.forall_mem_cons.mpr ⟨List.mem_of_getElem? (i := 119) rfl, List.forall_mem_cons.mpr ⟨List.mem_of_getElem? (i := 120) rfl, List.forall_mem_cons.mpr ⟨List.mem_of_getElem? (i := 17) rfl, List.forall_mem_cons.mpr ⟨List.mem_of_getElem? (i := 121) rfl, List.forall_mem_cons.mpr ⟨List.mem_of_getElem? (i := 19) rfl, List.forall_mem_cons.mpr ⟨List.mem_of_getElem? (i := 42) rfl, List.forall_mem_cons.mpr ⟨List.mem_of_getElem? (i := 52) rfl, List.forall_mem_cons.mpr ⟨List.mem_of_getElem? (i := 122) rfl, List.forall_mem_cons.mpr ⟨List.mem_of_getElem? (i := 123) rfl, List.forall_mem_cons.mpr ⟨List.mem_of_getElem? (i := 124) rfl, List.forall_mem_cons.mpr ⟨List.mem_of_getElem? (i := 125) rfl, List.forall_mem_cons.mpr ⟨List.mem_of_getElem? (i := 48) rfl, List.forall_mem_cons.mpr ⟨List.mem_of_getElem? (i := 126) rfl, List.forall_mem_cons.mpr ⟨List.mem_of_getElem? (i := 127) rfl, List.forall_mem_cons.mpr ⟨List.mem_of_getElem? (i := 128) rfl, List.forall_mem_cons.mpr ⟨List.mem_of_getElem? (i := 129) rfl, List.forall_mem_cons.mpr ⟨List.mem_of_getElem? (i := 130) rfl, List.forall_mem_cons.mpr ⟨List.mem_of_getElem? (i := 131) rfl, List.forall_mem_cons.mpr ⟨List.mem_of_getElem? (i := 29) rfl, List.forall_mem_cons.mpr ⟨List.mem_of_getElem? (i := 30) rfl, List.forall_mem_cons.mpr ⟨List.mem_of_getElem? (i := 31) rfl, List.forall_mem_cons.mpr ⟨List.mem_of_getElem? (i := 32) rfl, List.forall_mem_cons.mpr ⟨List.mem_of_getElem? (i := 33) rfl, List.forall_mem_cons.mpr ⟨List.mem_of_getElem? (i := 132) rfl, List.forall_mem_cons.mpr ⟨List.mem_of_getElem? (i := 133) rfl, List.forall_mem_cons.mpr ⟨List.mem_of_getElem? (i := 134) rfl, List.forall_mem_cons.mpr ⟨List.mem_of_getElem? (i := 135) rfl, List.forall_mem_cons.mpr ⟨List.mem_of_getElem? (i := 136) rfl, List.forall_mem_cons.mpr ⟨List.mem_of_getElem? (i := 137) rfl, List.forall_mem_cons.mpr ⟨List.mem_of_getElem? (i := 138) rfl, List.forall_mem_cons.mpr ⟨List.mem_of_getElem? (i := 139) rfl, List.forall_mem_cons.mpr ⟨List.mem_of_getElem? (i := 140) rfl, List.forall_mem_cons.mpr ⟨List.mem_of_getElem? (i := 141) rfl, List.forall_mem_cons.mpr ⟨List.mem_of_getElem? (i := 142) rfl, List.forall_mem_cons.mpr ⟨List.mem_of_getElem? (i := 143) rfl, List.forall_mem_cons.mpr ⟨List.mem_of_getElem? (i := 144) rfl, List.forall_mem_cons.mpr ⟨List.mem_of_getElem? (i := 145) rfl, List.forall_mem_cons.mpr ⟨List.mem_of_getElem? (i := 146) rfl, List.forall_mem_cons.mpr ⟨List.mem_of_getElem? (i := 170) rfl, List.forall_mem_cons.mpr ⟨List.mem_of_getElem? (i := 171) rfl, List.forall_mem_cons.mpr ⟨List.mem_of_getElem? (i := 172) rfl, List.forall_mem_cons.mpr ⟨List.mem_of_getElem? (i := 173) rfl, List.forall_mem_cons.mpr ⟨List.mem_of_getElem? (i := 174) rfl, List.forall_mem_cons.mpr ⟨List.mem_of_getElem? (i := 175) rfl, List.forall_mem_cons.mpr ⟨List.mem_of_getElem? (i := 176) rfl, List.forall_mem_cons.mpr ⟨List.mem_of_getElem? (i := 177) rfl, List.forall_mem_cons.mpr ⟨List.mem_of_getElem? (i := 178) rfl, List.forall_mem_cons.mpr ⟨List.mem_of_getElem? (i := 147) rfl, List.forall_mem_cons.mpr ⟨List.mem_of_getElem? (i := 148) rfl, List.forall_mem_cons.mpr ⟨List.mem_of_getElem? (i := 149) rfl, List.forall_mem_cons.mpr ⟨List.mem_of_getElem? (i := 150) rfl, List.forall_mem_cons.mpr ⟨List.mem_of_getElem? (i := 151) rfl, List.forall_mem_cons.mpr ⟨List.mem_of_getElem? (i := 152) rfl, List.forall_mem_cons.mpr ⟨List.mem_of_getElem? (i := 153) rfl, List.forall_mem_cons.mpr ⟨List.mem_of_getElem? (i := 154) rfl, List.forall_mem_cons.mpr ⟨List.mem_of_getElem? (i := 155) rfl, List.forall_mem_cons.mpr ⟨List.mem_of_getElem? (i := 156) rfl, List.forall_mem_cons.mpr ⟨List.mem_of_getElem? (i := 157) rfl, List.forall_mem_cons.mpr ⟨List.mem_of_getElem? (i := 158) rfl, List.forall_mem_cons.mpr ⟨List.mem_of_getElem? (i := 159) rfl, List.forall_mem_cons.mpr ⟨List.mem_of_getElem? (i := 160) rfl, List.forall_mem_cons.mpr ⟨List.mem_of_getElem? (i := 161) rfl, List.forall_mem_cons.mpr ⟨List.mem_of_getElem? (i := 162) rfl, List.forall_mem_cons.mpr ⟨List.mem_of_getElem? (i := 163) rfl, List.forall_mem_cons.mpr ⟨List.mem_of_getElem? (i := 164) rfl, List.forall_mem_cons.mpr ⟨List.mem_of_getElem? (i := 165) rfl, List.forall_mem_cons.mpr ⟨List.mem_of_getElem? (i := 166) rfl, List.forall_mem_cons.mpr ⟨List.mem_of_getElem? (i := 167) rfl, List.forall_mem_cons.mpr ⟨List.mem_of_getElem? (i := 168) rfl, List.forall_mem_cons.mpr ⟨List.mem_of_getElem? (i := 169) rfl, wk_mn⟩⟩⟩⟩⟩⟩⟩⟩⟩⟩⟩⟩⟩⟩⟩⟩⟩⟩⟩⟩⟩⟩⟩⟩⟩⟩⟩⟩⟩⟩⟩⟩⟩⟩⟩⟩⟩⟩⟩⟩⟩⟩⟩⟩⟩⟩⟩⟩⟩⟩⟩⟩⟩⟩⟩⟩⟩⟩⟩⟩⟩⟩⟩⟩⟩⟩⟩⟩⟩⟩⟩⟩⟩⟩⟩⟩⟩⟩⟩⟩⟩) (by decide +kernel)
set_option maxRecDepth 20000 in
theorem gL_isSo_X3_count : GoodIn wsL_isSo (wsV RL 111 RX3 yX3_count wsX3_count) := goodIn_app (goodIn_sub (List.forall_mem_cons.mpr ⟨List.mem_of_getElem? (i := 110) rfl, List.forall_mem_cons.mpr ⟨List.mem_of_getElem? (i := 111) rfl, List.forall_mem_cons.mpr ⟨List.mem_of_getElem? (i := 112) rfl, List.forall_mem_cons.mpr ⟨List.mem_of_getElem? (i := 9) rfl, wk_mn⟩⟩⟩⟩) (by decide +kernel)) ggL_isSo_X3_count
theorem dL_isSo_0 : decode cL_isSo 0 = .ok (.iconst 4, 1) := by decide +kernel
theorem dL_isSo_1 : decode cL_isSo 1 = .ok (.newarray .int, 2) := by decide +kernel
theorem dL_isSo_3 : decode cL_isSo 3 = .ok (.astore 6, 2) := by decide +kernel
theorem dL_isSo_5 : decode cL_isSo 5 = .ok (.iconst 0, 1) := by decide +kernel
theorem dL_isSo_6 : decode cL_isSo 6 = .ok (.istore 7, 2) := by decide +kernel
theorem dL_isSo_8 : decode cL_isSo 8 = .ok (.iconst 0, 1) := by decide +kernel
theorem dL_isSo_9 : decode cL_isSo 9 = .ok (.istore 8, 2) := by decide +kernel
theorem dL_isSo_11 : decode cL_isSo 11 = .ok (.iconst 0, 1) := by decide +kernel
theorem dL_isSo_12 : decode cL_isSo 12 = .ok (.istore 9, 2) := by decide +kernel
theorem dL_isSo_14 : decode cL_isSo 14 = .ok (.iconst 1, 1) := by decide +kernel
theorem dL_isSo_15 : decode cL_isSo 15 = .ok (.istore 10, 2) := by decide +kernel
theorem dL_isSo_17 : decode cL_isSo 17 = .ok (.iconst 0, 1) := by decide +kernel
theorem dL_isSo_18 : decode cL_isSo 18 = .ok (.istore 11, 2) := by decide +kernel
theorem dL_isSo_20 : decode cL_isSo 20 = .ok (.iload 11, 2) := by decide +kernel
theorem dL_isSo_22 : decode cL_isSo 22 = .ok (.aload_n 1, 1) := by decide +kernel
theorem dL_isSo_23 : decode cL_isSo 23 = .ok (.iconst 0, 1) := by decide +kernel
theorem dL_isSo_24 : decode cL_isSo 24 = .ok (.iaload, 1) := by decide +kernel
theorem dL_isSo_25 : decode cL_isSo 25 = .ok (.if_icmp .ge 143, 3) := by decide +kernel
theorem dL_isSo_28 : decode cL_isSo 28 = .ok (.iload 10, 2) := by decide +kernel
theorem dL_isSo_30 : decode cL_isSo 30 = .ok (.ifCond .eq 138, 3) := by decide +kernel
theorem dL_isSo_33 : decode cL_isSo 33 = .ok (.aload 6, 2) := by decide +kernel
theorem dL_isSo_35 : decode cL_isSo 35 = .ok (.aload_n 3, 1) := by decide +kernel
theorem dL_isSo_36 : decode cL_isSo 36 = .ok (.bipush 8, 2) := by decide +kernel
theorem dL_isSo_38 : decode cL_isSo 38 = .ok (.iload 11, 2) := by decide +kernel
theorem dL_isSo_40 : decode cL_isSo 40 = .ok (.imul, 1) := by decide +kernel
theorem dL_isSo_41 : decode cL_isSo 41 = .ok (.iaload, 1) := by decide +kernel
theorem dL_isSo_42 : decode cL_isSo 42 = .ok (.dup2, 1) := by decide +kernel
theorem dL_isSo_43 : decode cL_isSo 43 = .ok (.iaload, 1) := by decide +kernel
theorem dL_isSo_44 : decode cL_isSo 44 = .ok (.iconst 1, 1) := by decide +kernel
theorem dL_isSo_45 : decode cL_isSo 45 = .ok (.iadd, 1) := by decide +kernel
theorem dL_isSo_46 : decode cL_isSo 46 = .ok (.iastore, 1) := by decide +kernel
theorem dL_isSo_47 : decode cL_isSo 47 = .ok (.iload 7, 2) := by decide +kernel
theorem dL_isSo_49 : decode cL_isSo 49 = .ok (.aload 4, 2) := by decide +kernel
theorem dL_isSo_51 : decode cL_isSo 51 = .ok (.iconst 4, 1) := by decide +kernel
theorem dL_isSo_52 : decode cL_isSo 52 = .ok (.iload 11, 2) := by decide +kernel
theorem dL_isSo_54 : decode cL_isSo 54 = .ok (.imul, 1) := by decide +kernel
theorem dL_isSo_55 : decode cL_isSo 55 = .ok (.iaload, 1) := by decide +kernel
theorem dL_isSo_56 : decode cL_isSo 56 = .ok (.aload 4, 2) := by decide +kernel
theorem dL_isSo_58 : decode cL_isSo 58 = .ok (.iconst 4, 1) := by decide +kernel
theorem dL_isSo_59 : decode cL_isSo 59 = .ok (.iload 11, 2) := by decide +kernel
theorem dL_isSo_61 : decode cL_isSo 61 = .ok (.imul, 1) := by decide +kernel
theorem dL_isSo_62 : decode cL_isSo 62 = .ok (.iconst 1, 1) := by decide +kernel
theorem dL_isSo_63 : decode cL_isSo 63 = .ok (.iadd, 1) := by decide +kernel
theorem dL_isSo_64 : decode cL_isSo 64 = .ok (.iaload, 1) := by decide +kernel
theorem dL_isSo_65 : decode cL_isSo 65 = .ok (.iadd, 1) := by decide +kernel
theorem dL_isSo_66 : decode cL_isSo 66 = .ok (.aload 4, 2) := by decide +kernel
theorem dL_isSo_68 : decode cL_isSo 68 = .ok (.iconst 4, 1) := by decide +kernel
theorem dL_isSo_69 : decode cL_isSo 69 = .ok (.iload 11, 2) := by decide +kernel
theorem dL_isSo_71 : decode cL_isSo 71 = .ok (.imul, 1) := by decide +kernel
theorem dL_isSo_72 : decode cL_isSo 72 = .ok (.iconst 2, 1) := by decide +kernel
theorem dL_isSo_73 : decode cL_isSo 73 = .ok (.iadd, 1) := by decide +kernel
theorem dL_isSo_74 : decode cL_isSo 74 = .ok (.iaload, 1) := by decide +kernel
theorem dL_isSo_75 : decode cL_isSo 75 = .ok (.iadd, 1) := by decide +kernel
theorem dL_isSo_76 : decode cL_isSo 76 = .ok (.aload 4, 2) := by decide +kernel
theorem dL_isSo_78 : decode cL_isSo 78 = .ok (.iconst 4, 1) := by decide +kernel
theorem dL_isSo_79 : decode cL_isSo 79 = .ok (.iload 11, 2) := by decide +kernel
