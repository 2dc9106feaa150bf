theorem dX6_pass_150 : decode cX6_pass 150 = .ok (.dup, 1) := by decide +kernel
theorem dX6_pass_151 : decode cX6_pass 151 = .ok (.getfield 35, 3) := by decide +kernel
theorem dX6_pass_154 : decode cX6_pass 154 = .ok (.iconst 1, 1) := by decide +kernel
theorem dX6_pass_155 : decode cX6_pass 155 = .ok (.isub, 1) := by decide +kernel
theorem dX6_pass_156 : decode cX6_pass 156 = .ok (.putfield 35, 3) := by decide +kernel
theorem dX6_pass_159 : decode cX6_pass 159 = .ok (.aload_n 0, 1) := by decide +kernel
theorem dX6_pass_160 : decode cX6_pass 160 = .ok (.getfield 19, 3) := by decide +kernel
theorem dX6_pass_163 : decode cX6_pass 163 = .ok (.aload 7, 2) := by decide +kernel
theorem dX6_pass_165 : decode cX6_pass 165 = .ok (.getfield 32, 3) := by decide +kernel
theorem dX6_pass_168 : decode cX6_pass 168 = .ok (.aaload, 1) := by decide +kernel
theorem dX6_pass_169 : decode cX6_pass 169 = .ok (.astore 8, 2) := by decide +kernel
theorem dX6_pass_171 : decode cX6_pass 171 = .ok (.aload 8, 2) := by decide +kernel
theorem dX6_pass_173 : decode cX6_pass 173 = .ok (.iconst 2, 1) := by decide +kernel
theorem dX6_pass_174 : decode cX6_pass 174 = .ok (.iaload, 1) := by decide +kernel
theorem dX6_pass_175 : decode cX6_pass 175 = .ok (.bipush 20, 2) := by decide +kernel
theorem dX6_pass_177 : decode cX6_pass 177 = .ok (.if_icmp .ge 14, 3) := by decide +kernel
theorem dX6_pass_180 : decode cX6_pass 180 = .ok (.aload 8, 2) := by decide +kernel
theorem dX6_pass_182 : decode cX6_pass 182 = .ok (.iconst 2, 1) := by decide +kernel
theorem dX6_pass_183 : decode cX6_pass 183 = .ok (.dup2, 1) := by decide +kernel
theorem dX6_pass_184 : decode cX6_pass 184 = .ok (.iaload, 1) := by decide +kernel
theorem dX6_pass_185 : decode cX6_pass 185 = .ok (.iconst 1, 1) := by decide +kernel
theorem dX6_pass_186 : decode cX6_pass 186 = .ok (.iadd, 1) := by decide +kernel
theorem dX6_pass_187 : decode cX6_pass 187 = .ok (.iastore, 1) := by decide +kernel
theorem dX6_pass_188 : decode cX6_pass 188 = .ok (.goto 16, 3) := by decide +kernel
theorem dX6_pass_191 : decode cX6_pass 191 = .ok (.aload_n 2, 1) := by decide +kernel
theorem dX6_pass_192 : decode cX6_pass 192 = .ok (.aload 8, 2) := by decide +kernel
theorem dX6_pass_194 : decode cX6_pass 194 = .ok (.iconst 0, 1) := by decide +kernel
theorem dX6_pass_195 : decode cX6_pass 195 = .ok (.iaload, 1) := by decide +kernel
theorem dX6_pass_196 : decode cX6_pass 196 = .ok (.dup2, 1) := by decide +kernel
theorem dX6_pass_197 : decode cX6_pass 197 = .ok (.iaload, 1) := by decide +kernel
theorem dX6_pass_198 : decode cX6_pass 198 = .ok (.iconst 1, 1) := by decide +kernel
theorem dX6_pass_199 : decode cX6_pass 199 = .ok (.iadd, 1) := by decide +kernel
theorem dX6_pass_200 : decode cX6_pass 200 = .ok (.iastore, 1) := by decide +kernel
theorem dX6_pass_201 : decode cX6_pass 201 = .ok (.iinc 3 1, 3) := by decide +kernel
theorem dX6_pass_204 : decode cX6_pass 204 = .ok (.iinc 6 1, 3) := by decide +kernel
theorem dX6_pass_207 : decode cX6_pass 207 = .ok (.goto (-101), 3) := by decide +kernel
theorem dX6_pass_210 : decode cX6_pass 210 = .ok (.aload_n 0, 1) := by decide +kernel
theorem dX6_pass_211 : decode cX6_pass 211 = .ok (.getfield 19, 3) := by decide +kernel
theorem dX6_pass_214 : decode cX6_pass 214 = .ok (.astore 4, 2) := by decide +kernel
theorem dX6_pass_216 : decode cX6_pass 216 = .ok (.aload 4, 2) := by decide +kernel
theorem dX6_pass_218 : decode cX6_pass 218 = .ok (.arraylength, 1) := by decide +kernel
theorem dX6_pass_219 : decode cX6_pass 219 = .ok (.istore 5, 2) := by decide +kernel
theorem dX6_pass_221 : decode cX6_pass 221 = .ok (.iconst 0, 1) := by decide +kernel
theorem dX6_pass_222 : decode cX6_pass 222 = .ok (.istore 6, 2) := by decide +kernel
theorem dX6_pass_224 : decode cX6_pass 224 = .ok (.iload 6, 2) := by decide +kernel
theorem dX6_pass_226 : decode cX6_pass 226 = .ok (.iload 5, 2) := by decide +kernel
theorem dX6_pass_228 : decode cX6_pass 228 = .ok (.if_icmp .ge 81, 3) := by decide +kernel
theorem dX6_pass_231 : decode cX6_pass 231 = .ok (.aload 4, 2) := by decide +kernel
theorem dX6_pass_233 : decode cX6_pass 233 = .ok (.iload 6, 2) := by decide +kernel
theorem dX6_pass_235 : decode cX6_pass 235 = .ok (.aaload, 1) := by decide +kernel
theorem dX6_pass_236 : decode cX6_pass 236 = .ok (.astore 7, 2) := by decide +kernel
theorem dX6_pass_238 : decode cX6_pass 238 = .ok (.aload 7, 2) := by decide +kernel
theorem dX6_pass_240 : decode cX6_pass 240 = .ok (.iconst 3, 1) := by decide +kernel
theorem dX6_pass_241 : decode cX6_pass 241 = .ok (.iaload, 1) := by decide +kernel
theorem dX6_pass_242 : decode cX6_pass 242 = .ok (.ifCond .ge 6, 3) := by decide +kernel
theorem dX6_pass_245 : decode cX6_pass 245 = .ok (.goto 58, 3) := by decide +kernel
theorem dX6_pass_248 : decode cX6_pass 248 = .ok (.aload 7, 2) := by decide +kernel
theorem dX6_pass_250 : decode cX6_pass 250 = .ok (.iconst 4, 1) := by decide +kernel
theorem dX6_pass_251 : decode cX6_pass 251 = .ok (.dup2, 1) := by decide +kernel
theorem dX6_pass_252 : decode cX6_pass 252 = .ok (.iaload, 1) := by decide +kernel
theorem dX6_pass_253 : decode cX6_pass 253 = .ok (.iconst 1, 1) := by decide +kernel
theorem dX6_pass_254 : decode cX6_pass 254 = .ok (.iadd, 1) := by decide +kernel
theorem dX6_pass_255 : decode cX6_pass 255 = .ok (.iastore, 1) := by decide +kernel
theorem dX6_pass_256 : decode cX6_pass 256 = .ok (.aload 7, 2) := by decide +kernel
theorem dX6_pass_258 : decode cX6_pass 258 = .ok (.iconst 5, 1) := by decide +kernel
theorem dX6_pass_259 : decode cX6_pass 259 = .ok (.iaload, 1) := by decide +kernel
theorem dX6_pass_260 : decode cX6_pass 260 = .ok (.ifCond .le 43, 3) := by decide +kernel
theorem dX6_pass_263 : decode cX6_pass 263 = .ok (.aload 7, 2) := by decide +kernel
theorem dX6_pass_265 : decode cX6_pass 265 = .ok (.iconst 4, 1) := by decide +kernel
theorem dX6_pass_266 : decode cX6_pass 266 = .ok (.iaload, 1) := by decide +kernel
theorem dX6_pass_267 : decode cX6_pass 267 = .ok (.aload 7, 2) := by decide +kernel
theorem dX6_pass_269 : decode cX6_pass 269 = .ok (.iconst 5, 1) := by decide +kernel
theorem dX6_pass_270 : decode cX6_pass 270 = .ok (.iaload, 1) := by decide +kernel
theorem dX6_pass_271 : decode cX6_pass 271 = .ok (.irem, 1) := by decide +kernel
theorem dX6_pass_272 : decode cX6_pass 272 = .ok (.ifCond .ne 31, 3) := by decide +kernel
theorem dX6_pass_275 : decode cX6_pass 275 = .ok (.aload_n 0, 1) := by decide +kernel
theorem dX6_pass_276 : decode cX6_pass 276 = .ok (.getfield 24, 3) := by decide +kernel
theorem dX6_pass_279 : decode cX6_pass 279 = .ok (.aload 7, 2) := by decide +kernel
theorem dX6_pass_281 : decode cX6_pass 281 = .ok (.iconst 3, 1) := by decide +kernel
theorem dX6_pass_282 : decode cX6_pass 282 = .ok (.iaload, 1) := by decide +kernel
theorem dX6_pass_283 : decode cX6_pass 283 = .ok (.aaload, 1) := by decide +kernel
theorem dX6_pass_284 : decode cX6_pass 284 = .ok (.aload_n 0, 1) := by decide +kernel
theorem dX6_pass_285 : decode cX6_pass 285 = .ok (.getfield 24, 3) := by decide +kernel
theorem dX6_pass_288 : decode cX6_pass 288 = .ok (.aload 7, 2) := by decide +kernel
theorem dX6_pass_290 : decode cX6_pass 290 = .ok (.iconst 3, 1) := by decide +kernel
theorem dX6_pass_291 : decode cX6_pass 291 = .ok (.iaload, 1) := by decide +kernel
theorem dX6_pass_292 : decode cX6_pass 292 = .ok (.aaload, 1) := by decide +kernel
theorem dX6_pass_293 : decode cX6_pass 293 = .ok (.getfield 61, 3) := by decide +kernel
theorem dX6_pass_296 : decode cX6_pass 296 = .ok (.iconst 1, 1) := by decide +kernel
theorem dX6_pass_297 : decode cX6_pass 297 = .ok (.iadd, 1) := by decide +kernel
theorem dX6_pass_298 : decode cX6_pass 298 = .ok (.iconst 4, 1) := by decide +kernel
theorem dX6_pass_299 : decode cX6_pass 299 = .ok (.irem, 1) := by decide +kernel
theorem dX6_pass_300 : decode cX6_pass 300 = .ok (.putfield 61, 3) := by decide +kernel
theorem dX6_pass_303 : decode cX6_pass 303 = .ok (.iinc 6 1, 3) := by decide +kernel
theorem dX6_pass_306 : decode cX6_pass 306 = .ok (.goto (-82), 3) := by decide +kernel
theorem dX6_pass_309 : decode cX6_pass 309 = .ok (.iconst 0, 1) := by decide +kernel
theorem dX6_pass_310 : decode cX6_pass 310 = .ok (.istore 4, 2) := by decide +kernel
theorem dX6_pass_312 : decode cX6_pass 312 = .ok (.iload 4, 2) := by decide +kernel
theorem dX6_pass_314 : decode cX6_pass 314 = .ok (.aload_n 0, 1) := by decide +kernel
theorem dX6_pass_315 : decode cX6_pass 315 = .ok (.getfield 15, 3) := by decide +kernel
theorem dX6_pass_318 : decode cX6_pass 318 = .ok (.arraylength, 1) := by decide +kernel
theorem dX6_pass_319 : decode cX6_pass 319 = .ok (.if_icmp .ge 109, 3) := by decide +kernel
theorem dX6_pass_322 : decode cX6_pass 322 = .ok (.aload_n 0, 1) := by decide +kernel
theorem dX6_pass_323 : decode cX6_pass 323 = .ok (.getfield 15, 3) := by decide +kernel
theorem dX6_pass_326 : decode cX6_pass 326 = .ok (.iload 4, 2) := by decide +kernel
theorem dX6_pass_328 : decode cX6_pass 328 = .ok (.aaload, 1) := by decide +kernel
theorem dX6_pass_329 : decode cX6_pass 329 = .ok (.iconst 1, 1) := by decide +kernel
theorem dX6_pass_330 : decode cX6_pass 330 = .ok (.iaload, 1) := by decide +kernel
theorem dX6_pass_331 : decode cX6_pass 331 = .ok (.aload_n 2, 1) := by decide +kernel
theorem dX6_pass_332 : decode cX6_pass 332 = .ok (.iload 4, 2) := by decide +kernel
theorem dX6_pass_334 : decode cX6_pass 334 = .ok (.iaload, 1) := by decide +kernel
theorem dX6_pass_335 : decode cX6_pass 335 = .ok (.iadd, 1) := by decide +kernel
theorem dX6_pass_336 : decode cX6_pass 336 = .ok (.aload_n 0, 1) := by decide +kernel
theorem dX6_pass_337 : decode cX6_pass 337 = .ok (.getfield 15, 3) := by decide +kernel
theorem dX6_pass_340 : decode cX6_pass 340 = .ok (.iload 4, 2) := by decide +kernel
theorem dX6_pass_342 : decode cX6_pass 342 = .ok (.aaload, 1) := by decide +kernel
theorem dX6_pass_343 : decode cX6_pass 343 = .ok (.iconst 0, 1) := by decide +kernel
theorem dX6_pass_344 : decode cX6_pass 344 = .ok (.iaload, 1) := by decide +kernel
theorem dX6_pass_345 : decode cX6_pass 345 = .ok (.ifCond .le 7, 3) := by decide +kernel
theorem dX6_pass_348 : decode cX6_pass 348 = .ok (.iconst 1, 1) := by decide +kernel
theorem dX6_pass_349 : decode cX6_pass 349 = .ok (.goto 4, 3) := by decide +kernel
theorem dX6_pass_352 : decode cX6_pass 352 = .ok (.iconst (-1), 1) := by decide +kernel
theorem dX6_pass_353 : decode cX6_pass 353 = .ok (.iadd, 1) := by decide +kernel
theorem dX6_pass_354 : decode cX6_pass 354 = .ok (.istore 5, 2) := by decide +kernel
theorem dX6_pass_356 : decode cX6_pass 356 = .ok (.aload_n 0, 1) := by decide +kernel
theorem dX6_pass_357 : decode cX6_pass 357 = .ok (.getfield 15, 3) := by decide +kernel
theorem dX6_pass_360 : decode cX6_pass 360 = .ok (.iload 4, 2) := by decide +kernel
theorem dX6_pass_362 : decode cX6_pass 362 = .ok (.aaload, 1) := by decide +kernel
theorem dX6_pass_363 : decode cX6_pass 363 = .ok (.iconst 0, 1) := by decide +kernel
theorem dX6_pass_364 : decode cX6_pass 364 = .ok (.iaload, 1) := by decide +kernel
theorem dX6_pass_365 : decode cX6_pass 365 = .ok (.ifCond .le 25, 3) := by decide +kernel
theorem dX6_pass_368 : decode cX6_pass 368 = .ok (.aload_n 0, 1) := by decide +kernel
theorem dX6_pass_369 : decode cX6_pass 369 = .ok (.getfield 39, 3) := by decide +kernel
theorem dX6_pass_372 : decode cX6_pass 372 = .ok (.iconst 5, 1) := by decide +kernel
theorem dX6_pass_373 : decode cX6_pass 373 = .ok (.irem, 1) := by decide +kernel
theorem dX6_pass_374 : decode cX6_pass 374 = .ok (.ifCond .ne 16, 3) := by decide +kernel
theorem dX6_pass_377 : decode cX6_pass 377 = .ok (.aload_n 0, 1) := by decide +kernel
theorem dX6_pass_378 : decode cX6_pass 378 = .ok (.getfield 15, 3) := by decide +kernel
theorem dX6_pass_381 : decode cX6_pass 381 = .ok (.iload 4, 2) := by decide +kernel
theorem dX6_pass_383 : decode cX6_pass 383 = .ok (.aaload, 1) := by decide +kernel
theorem dX6_pass_384 : decode cX6_pass 384 = .ok (.iconst 0, 1) := by decide +kernel
theorem dX6_pass_385 : decode cX6_pass 385 = .ok (.dup2, 1) := by decide +kernel
theorem dX6_pass_386 : decode cX6_pass 386 = .ok (.iaload, 1) := by decide +kernel
theorem dX6_pass_387 : decode cX6_pass 387 = .ok (.iconst 1, 1) := by decide +kernel
theorem dX6_pass_388 : decode cX6_pass 388 = .ok (.isub, 1) := by decide +kernel
theorem dX6_pass_389 : decode cX6_pass 389 = .ok (.iastore, 1) := by decide +kernel
theorem dX6_pass_390 : decode cX6_pass 390 = .ok (.aload_n 0, 1) := by decide +kernel
theorem dX6_pass_391 : decode cX6_pass 391 = .ok (.getfield 15, 3) := by decide +kernel
theorem dX6_pass_394 : decode cX6_pass 394 = .ok (.iload 4, 2) := by decide +kernel
theorem dX6_pass_396 : decode cX6_pass 396 = .ok (.aaload, 1) := by decide +kernel
theorem dX6_pass_397 : decode cX6_pass 397 = .ok (.iconst 1, 1) := by decide +kernel
theorem dX6_pass_398 : decode cX6_pass 398 = .ok (.iload 5, 2) := by decide +kernel
theorem dX6_pass_400 : decode cX6_pass 400 = .ok (.ifCond .ge 7, 3) := by decide +kernel
theorem dX6_pass_403 : decode cX6_pass 403 = .ok (.iconst 0, 1) := by decide +kernel
theorem dX6_pass_404 : decode cX6_pass 404 = .ok (.goto 17, 3) := by decide +kernel
theorem dX6_pass_407 : decode cX6_pass 407 = .ok (.iload 5, 2) := by decide +kernel
theorem dX6_pass_409 : decode cX6_pass 409 = .ok (.bipush 9, 2) := by decide +kernel
theorem dX6_pass_411 : decode cX6_pass 411 = .ok (.if_icmp .le 8, 3) := by decide +kernel
theorem dX6_pass_414 : decode cX6_pass 414 = .ok (.bipush 9, 2) := by decide +kernel
theorem dX6_pass_416 : decode cX6_pass 416 = .ok (.goto 5, 3) := by decide +kernel
theorem dX6_pass_419 : decode cX6_pass 419 = .ok (.iload 5, 2) := by decide +kernel
theorem dX6_pass_421 : decode cX6_pass 421 = .ok (.iastore, 1) := by decide +kernel
theorem dX6_pass_422 : decode cX6_pass 422 = .ok (.iinc 4 1, 3) := by decide +kernel
theorem dX6_pass_425 : decode cX6_pass 425 = .ok (.goto (-113), 3) := by decide +kernel
theorem dX6_pass_428 : decode cX6_pass 428 = .ok (.aload_n 0, 1) := by decide +kernel
theorem dX6_pass_429 : decode cX6_pass 429 = .ok (.dup, 1) := by decide +kernel
theorem dX6_pass_430 : decode cX6_pass 430 = .ok (.getfield 39, 3) := by decide +kernel
theorem dX6_pass_433 : decode cX6_pass 433 = .ok (.iconst 1, 1) := by decide +kernel
theorem dX6_pass_434 : decode cX6_pass 434 = .ok (.iadd, 1) := by decide +kernel
theorem dX6_pass_435 : decode cX6_pass 435 = .ok (.putfield 39, 3) := by decide +kernel
theorem dX6_pass_438 : decode cX6_pass 438 = .ok (.iload_n 3, 1) := by decide +kernel
theorem dX6_pass_439 : decode cX6_pass 439 = .ok (.ireturn, 1) := by decide +kernel
theorem dX6_isSame_0 : decode cX6_isSame 0 = .ok (.aload_n 1, 1) := by decide +kernel
theorem dX6_isSame_1 : decode cX6_isSame 1 = .ok (.invokevirtual 75, 3) := by decide +kernel
theorem dX6_isSame_4 : decode cX6_isSame 4 = .ok (.aload_n 0, 1) := by decide +kernel
theorem dX6_isSame_5 : decode cX6_isSame 5 = .ok (.getfield 39, 3) := by decide +kernel
theorem dX6_isSame_8 : decode cX6_isSame 8 = .ok (.if_icmp .ne 50, 3) := by decide +kernel
theorem dX6_isSame_11 : decode cX6_isSame 11 = .ok (.aload_n 1, 1) := by decide +kernel
theorem dX6_isSame_12 : decode cX6_isSame 12 = .ok (.invokevirtual 79, 3) := by decide +kernel
theorem dX6_isSame_15 : decode cX6_isSame 15 = .ok (.aload_n 0, 1) := by decide +kernel
theorem dX6_isSame_16 : decode cX6_isSame 16 = .ok (.getfield 7, 3) := by decide +kernel
theorem dX6_isSame_19 : decode cX6_isSame 19 = .ok (.if_icmp .ne 39, 3) := by decide +kernel
theorem dX6_isSame_22 : decode cX6_isSame 22 = .ok (.aload_n 1, 1) := by decide +kernel
theorem dX6_isSame_23 : decode cX6_isSame 23 = .ok (.invokevirtual 81, 3) := by decide +kernel
theorem dX6_isSame_26 : decode cX6_isSame 26 = .ok (.aload_n 0, 1) := by decide +kernel
theorem dX6_isSame_27 : decode cX6_isSame 27 = .ok (.getfield 15, 3) := by decide +kernel
theorem dX6_isSame_30 : decode cX6_isSame 30 = .ok (.arraylength, 1) := by decide +kernel
theorem dX6_isSame_31 : decode cX6_isSame 31 = .ok (.if_icmp .ne 27, 3) := by decide +kernel
theorem dX6_isSame_34 : decode cX6_isSame 34 = .ok (.aload_n 1, 1) := by decide +kernel
theorem dX6_isSame_35 : decode cX6_isSame 35 = .ok (.invokevirtual 83, 3) := by decide +kernel
theorem dX6_isSame_38 : decode cX6_isSame 38 = .ok (.aload_n 0, 1) := by decide +kernel
theorem dX6_isSame_39 : decode cX6_isSame 39 = .ok (.getfield 19, 3) := by decide +kernel
theorem dX6_isSame_42 : decode cX6_isSame 42 = .ok (.arraylength, 1) := by decide +kernel
theorem dX6_isSame_43 : decode cX6_isSame 43 = .ok (.if_icmp .ne 15, 3) := by decide +kernel
theorem dX6_isSame_46 : decode cX6_isSame 46 = .ok (.aload_n 1, 1) := by decide +kernel
theorem dX6_isSame_47 : decode cX6_isSame 47 = .ok (.invokevirtual 85, 3) := by decide +kernel
theorem dX6_isSame_50 : decode cX6_isSame 50 = .ok (.aload_n 0, 1) := by decide +kernel
theorem dX6_isSame_51 : decode cX6_isSame 51 = .ok (.getfield 24, 3) := by decide +kernel
theorem dX6_isSame_54 : decode cX6_isSame 54 = .ok (.arraylength, 1) := by decide +kernel
theorem dX6_isSame_55 : decode cX6_isSame 55 = .ok (.if_icmp .eq 5, 3) := by decide +kernel
theorem dX6_isSame_58 : decode cX6_isSame 58 = .ok (.iconst 0, 1) := by decide +kernel
theorem dX6_isSame_59 : decode cX6_isSame 59 = .ok (.ireturn, 1) := by decide +kernel
theorem dX6_isSame_60 : decode cX6_isSame 60 = .ok (.iconst 0, 1) := by decide +kernel
theorem dX6_isSame_61 : decode cX6_isSame 61 = .ok (.istore_n 2, 1) := by decide +kernel
theorem dX6_isSame_62 : decode cX6_isSame 62 = .ok (.iload_n 2, 1) := by decide +kernel
theorem dX6_isSame_63 : decode cX6_isSame 63 = .ok (.aload_n 0, 1) := by decide +kernel
theorem dX6_isSame_64 : decode cX6_isSame 64 = .ok (.getfield 15, 3) := by decide +kernel
theorem dX6_isSame_67 : decode cX6_isSame 67 = .ok (.arraylength, 1) := by decide +kernel
theorem dX6_isSame_68 : decode cX6_isSame 68 = .ok (.if_icmp .ge 43, 3) := by decide +kernel
theorem dX6_isSame_71 : decode cX6_isSame 71 = .ok (.aload_n 1, 1) := by decide +kernel
theorem dX6_isSame_72 : decode cX6_isSame 72 = .ok (.iload_n 2, 1) := by decide +kernel
theorem dX6_isSame_73 : decode cX6_isSame 73 = .ok (.invokevirtual 87, 3) := by decide +kernel
theorem dX6_isSame_76 : decode cX6_isSame 76 = .ok (.aload_n 0, 1) := by decide +kernel
theorem dX6_isSame_77 : decode cX6_isSame 77 = .ok (.getfield 15, 3) := by decide +kernel
theorem dX6_isSame_80 : decode cX6_isSame 80 = .ok (.iload_n 2, 1) := by decide +kernel
theorem dX6_isSame_81 : decode cX6_isSame 81 = .ok (.aaload, 1) := by decide +kernel
theorem dX6_isSame_82 : decode cX6_isSame 82 = .ok (.iconst 0, 1) := by decide +kernel
theorem dX6_isSame_83 : decode cX6_isSame 83 = .ok (.iaload, 1) := by decide +kernel
theorem dX6_isSame_84 : decode cX6_isSame 84 = .ok (.if_icmp .ne 19, 3) := by decide +kernel
theorem dX6_isSame_87 : decode cX6_isSame 87 = .ok (.aload_n 1, 1) := by decide +kernel
theorem dX6_isSame_88 : decode cX6_isSame 88 = .ok (.iload_n 2, 1) := by decide +kernel
theorem dX6_isSame_89 : decode cX6_isSame 89 = .ok (.invokevirtual 90, 3) := by decide +kernel
theorem dX6_isSame_92 : decode cX6_isSame 92 = .ok (.aload_n 0, 1) := by decide +kernel
theorem dX6_isSame_93 : decode cX6_isSame 93 = .ok (.getfield 15, 3) := by decide +kernel
theorem dX6_isSame_96 : decode cX6_isSame 96 = .ok (.iload_n 2, 1) := by decide +kernel
theorem dX6_isSame_97 : decode cX6_isSame 97 = .ok (.aaload, 1) := by decide +kernel
theorem dX6_isSame_98 : decode cX6_isSame 98 = .ok (.iconst 1, 1) := by decide +kernel
theorem dX6_isSame_99 : decode cX6_isSame 99 = .ok (.iaload, 1) := by decide +kernel
theorem dX6_isSame_100 : decode cX6_isSame 100 = .ok (.if_icmp .eq 5, 3) := by decide +kernel
theorem dX6_isSame_103 : decode cX6_isSame 103 = .ok (.iconst 0, 1) := by decide +kernel
theorem dX6_isSame_104 : decode cX6_isSame 104 = .ok (.ireturn, 1) := by decide +kernel
theorem dX6_isSame_105 : decode cX6_isSame 105 = .ok (.iinc 2 1, 3) := by decide +kernel
theorem dX6_isSame_108 : decode cX6_isSame 108 = .ok (.goto (-46), 3) := by decide +kernel
theorem dX6_isSame_111 : decode cX6_isSame 111 = .ok (.iconst 0, 1) := by decide +kernel
theorem dX6_isSame_112 : decode cX6_isSame 112 = .ok (.istore_n 2, 1) := by decide +kernel
theorem dX6_isSame_113 : decode cX6_isSame 113 = .ok (.iload_n 2, 1) := by decide +kernel
theorem dX6_isSame_114 : decode cX6_isSame 114 = .ok (.aload_n 0, 1) := by decide +kernel
theorem dX6_isSame_115 : decode cX6_isSame 115 = .ok (.getfield 19, 3) := by decide +kernel
theorem dX6_isSame_118 : decode cX6_isSame 118 = .ok (.arraylength, 1) := by decide +kernel
theorem dX6_isSame_119 : decode cX6_isSame 119 = .ok (.if_icmp .ge 104, 3) := by decide +kernel
theorem dX6_isSame_122 : decode cX6_isSame 122 = .ok (.aload_n 1, 1) := by decide +kernel
theorem dX6_isSame_123 : decode cX6_isSame 123 = .ok (.iload_n 2, 1) := by decide +kernel
theorem dX6_isSame_124 : decode cX6_isSame 124 = .ok (.invokevirtual 93, 3) := by decide +kernel
theorem dX6_isSame_127 : decode cX6_isSame 127 = .ok (.aload_n 0, 1) := by decide +kernel
theorem dX6_isSame_128 : decode cX6_isSame 128 = .ok (.getfield 19, 3) := by decide +kernel
theorem dX6_isSame_131 : decode cX6_isSame 131 = .ok (.iload_n 2, 1) := by decide +kernel
theorem dX6_isSame_132 : decode cX6_isSame 132 = .ok (.aaload, 1) := by decide +kernel
theorem dX6_isSame_133 : decode cX6_isSame 133 = .ok (.iconst 0, 1) := by decide +kernel
theorem dX6_isSame_134 : decode cX6_isSame 134 = .ok (.iaload, 1) := by decide +kernel
theorem dX6_isSame_135 : decode cX6_isSame 135 = .ok (.if_icmp .ne 80, 3) := by decide +kernel
theorem dX6_isSame_138 : decode cX6_isSame 138 = .ok (.aload_n 1, 1) := by decide +kernel
theorem dX6_isSame_139 : decode cX6_isSame 139 = .ok (.iload_n 2, 1) := by decide +kernel
theorem dX6_isSame_140 : decode cX6_isSame 140 = .ok (.invokevirtual 96, 3) := by decide +kernel
theorem dX6_isSame_143 : decode cX6_isSame 143 = .ok (.aload_n 0, 1) := by decide +kernel
theorem dX6_isSame_144 : decode cX6_isSame 144 = .ok (.getfield 19, 3) := by decide +kernel
theorem dX6_isSame_147 : decode cX6_isSame 147 = .ok (.iload_n 2, 1) := by decide +kernel
theorem dX6_isSame_148 : decode cX6_isSame 148 = .ok (.aaload, 1) := by decide +kernel
theorem dX6_isSame_149 : decode cX6_isSame 149 = .ok (.iconst 1, 1) := by decide +kernel
theorem dX6_isSame_150 : decode cX6_isSame 150 = .ok (.iaload, 1) := by decide +kernel
theorem dX6_isSame_151 : decode cX6_isSame 151 = .ok (.if_icmp .ne 64, 3) := by decide +kernel
theorem dX6_isSame_154 : decode cX6_isSame 154 = .ok (.aload_n 1, 1) := by decide +kernel
theorem dX6_isSame_155 : decode cX6_isSame 155 = .ok (.iload_n 2, 1) := by decide +kernel
theorem dX6_isSame_156 : decode cX6_isSame 156 = .ok (.invokevirtual 99, 3) := by decide +kernel
theorem dX6_isSame_159 : decode cX6_isSame 159 = .ok (.aload_n 0, 1) := by decide +kernel
theorem dX6_isSame_160 : decode cX6_isSame 160 = .ok (.iload_n 2, 1) := by decide +kernel
theorem dX6_isSame_161 : decode cX6_isSame 161 = .ok (.invokevirtual 50, 3) := by decide +kernel
theorem dX6_isSame_164 : decode cX6_isSame 164 = .ok (.if_icmp .ne 51, 3) := by decide +kernel
theorem dX6_isSame_167 : decode cX6_isSame 167 = .ok (.aload_n 1, 1) := by decide +kernel
theorem dX6_isSame_168 : decode cX6_isSame 168 = .ok (.iload_n 2, 1) := by decide +kernel
theorem dX6_isSame_169 : decode cX6_isSame 169 = .ok (.invokevirtual 102, 3) := by decide +kernel
theorem dX6_isSame_172 : decode cX6_isSame 172 = .ok (.aload_n 0, 1) := by decide +kernel
theorem dX6_isSame_173 : decode cX6_isSame 173 = .ok (.getfield 19, 3) := by decide +kernel
theorem dX6_isSame_176 : decode cX6_isSame 176 = .ok (.iload_n 2, 1) := by decide +kernel
theorem dX6_isSame_177 : decode cX6_isSame 177 = .ok (.aaload, 1) := by decide +kernel
theorem dX6_isSame_178 : decode cX6_isSame 178 = .ok (.iconst 2, 1) := by decide +kernel
theorem dX6_isSame_179 : decode cX6_isSame 179 = .ok (.iaload, 1) := by decide +kernel
theorem dX6_isSame_180 : decode cX6_isSame 180 = .ok (.if_icmp .ne 35, 3) := by decide +kernel
theorem dX6_isSame_183 : decode cX6_isSame 183 = .ok (.aload_n 1, 1) := by decide +kernel
theorem dX6_isSame_184 : decode cX6_isSame 184 = .ok (.iload_n 2, 1) := by decide +kernel
theorem dX6_isSame_185 : decode cX6_isSame 185 = .ok (.invokevirtual 105, 3) := by decide +kernel
theorem dX6_isSame_188 : decode cX6_isSame 188 = .ok (.aload_n 0, 1) := by decide +kernel
theorem dX6_isSame_189 : decode cX6_isSame 189 = .ok (.getfield 19, 3) := by decide +kernel
theorem dX6_isSame_192 : decode cX6_isSame 192 = .ok (.iload_n 2, 1) := by decide +kernel
theorem dX6_isSame_193 : decode cX6_isSame 193 = .ok (.aaload, 1) := by decide +kernel
theorem dX6_isSame_194 : decode cX6_isSame 194 = .ok (.iconst 3, 1) := by decide +kernel
theorem dX6_isSame_195 : decode cX6_isSame 195 = .ok (.iaload, 1) := by decide +kernel
theorem dX6_isSame_196 : decode cX6_isSame 196 = .ok (.if_icmp .ne 19, 3) := by decide +kernel
theorem dX6_isSame_199 : decode cX6_isSame 199 = .ok (.aload_n 1, 1) := by decide +kernel
theorem dX6_isSame_200 : decode cX6_isSame 200 = .ok (.iload_n 2, 1) := by decide +kernel
theorem dX6_isSame_201 : decode cX6_isSame 201 = .ok (.invokevirtual 108, 3) := by decide +kernel
theorem dX6_isSame_204 : decode cX6_isSame 204 = .ok (.aload_n 0, 1) := by decide +kernel
theorem dX6_isSame_205 : decode cX6_isSame 205 = .ok (.getfield 19, 3) := by decide +kernel
theorem dX6_isSame_208 : decode cX6_isSame 208 = .ok (.iload_n 2, 1) := by decide +kernel
theorem dX6_isSame_209 : decode cX6_isSame 209 = .ok (.aaload, 1) := by decide +kernel
theorem dX6_isSame_210 : decode cX6_isSame 210 = .ok (.iconst 5, 1) := by decide +kernel
theorem dX6_isSame_211 : decode cX6_isSame 211 = .ok (.iaload, 1) := by decide +kernel
theorem dX6_isSame_212 : decode cX6_isSame 212 = .ok (.if_icmp .eq 5, 3) := by decide +kernel
theorem dX6_isSame_215 : decode cX6_isSame 215 = .ok (.iconst 0, 1) := by decide +kernel
theorem dX6_isSame_216 : decode cX6_isSame 216 = .ok (.ireturn, 1) := by decide +kernel
theorem dX6_isSame_217 : decode cX6_isSame 217 = .ok (.iinc 2 1, 3) := by decide +kernel
theorem dX6_isSame_220 : decode cX6_isSame 220 = .ok (.goto (-107), 3) := by decide +kernel
theorem dX6_isSame_223 : decode cX6_isSame 223 = .ok (.iconst 0, 1) := by decide +kernel
theorem dX6_isSame_224 : decode cX6_isSame 224 = .ok (.istore_n 2, 1) := by decide +kernel
theorem dX6_isSame_225 : decode cX6_isSame 225 = .ok (.iconst 0, 1) := by decide +kernel
theorem dX6_isSame_226 : decode cX6_isSame 226 = .ok (.istore_n 3, 1) := by decide +kernel
theorem dX6_isSame_227 : decode cX6_isSame 227 = .ok (.iload_n 3, 1) := by decide +kernel
theorem dX6_isSame_228 : decode cX6_isSame 228 = .ok (.aload_n 0, 1) := by decide +kernel
theorem dX6_isSame_229 : decode cX6_isSame 229 = .ok (.getfield 24, 3) := by decide +kernel
theorem dX6_isSame_232 : decode cX6_isSame 232 = .ok (.arraylength, 1) := by decide +kernel
theorem dX6_isSame_233 : decode cX6_isSame 233 = .ok (.if_icmp .ge 156, 3) := by decide +kernel
theorem dX6_isSame_236 : decode cX6_isSame 236 = .ok (.aload_n 0, 1) := by decide +kernel
theorem dX6_isSame_237 : decode cX6_isSame 237 = .ok (.getfield 24, 3) := by decide +kernel
theorem dX6_isSame_240 : decode cX6_isSame 240 = .ok (.iload_n 3, 1) := by decide +kernel
theorem dX6_isSame_241 : decode cX6_isSame 241 = .ok (.aaload, 1) := by decide +kernel
theorem dX6_isSame_242 : decode cX6_isSame 242 = .ok (.astore 4, 2) := by decide +kernel
theorem dX6_isSame_244 : decode cX6_isSame 244 = .ok (.aload_n 1, 1) := by decide +kernel
theorem dX6_isSame_245 : decode cX6_isSame 245 = .ok (.iload_n 3, 1) := by decide +kernel
theorem dX6_isSame_246 : decode cX6_isSame 246 = .ok (.invokevirtual 111, 3) := by decide +kernel
theorem dX6_isSame_249 : decode cX6_isSame 249 = .ok (.aload 4, 2) := by decide +kernel
theorem dX6_isSame_251 : decode cX6_isSame 251 = .ok (.getfield 29, 3) := by decide +kernel
theorem dX6_isSame_254 : decode cX6_isSame 254 = .ok (.if_icmp .ne 81, 3) := by decide +kernel
theorem dX6_isSame_257 : decode cX6_isSame 257 = .ok (.aload_n 1, 1) := by decide +kernel
theorem dX6_isSame_258 : decode cX6_isSame 258 = .ok (.iload_n 3, 1) := by decide +kernel
theorem dX6_isSame_259 : decode cX6_isSame 259 = .ok (.invokevirtual 114, 3) := by decide +kernel
theorem dX6_isSame_262 : decode cX6_isSame 262 = .ok (.aload 4, 2) := by decide +kernel
theorem dX6_isSame_264 : decode cX6_isSame 264 = .ok (.getfield 32, 3) := by decide +kernel
theorem dX6_isSame_267 : decode cX6_isSame 267 = .ok (.if_icmp .ne 68, 3) := by decide +kernel
theorem dX6_isSame_270 : decode cX6_isSame 270 = .ok (.aload_n 1, 1) := by decide +kernel
theorem dX6_isSame_271 : decode cX6_isSame 271 = .ok (.iload_n 3, 1) := by decide +kernel
theorem dX6_isSame_272 : decode cX6_isSame 272 = .ok (.invokevirtual 117, 3) := by decide +kernel
theorem dX6_isSame_275 : decode cX6_isSame 275 = .ok (.aload 4, 2) := by decide +kernel
theorem dX6_isSame_277 : decode cX6_isSame 277 = .ok (.getfield 61, 3) := by decide +kernel
theorem dX6_isSame_280 : decode cX6_isSame 280 = .ok (.if_icmp .ne 55, 3) := by decide +kernel
theorem dX6_isSame_283 : decode cX6_isSame 283 = .ok (.aload_n 1, 1) := by decide +kernel
theorem dX6_isSame_284 : decode cX6_isSame 284 = .ok (.iload_n 3, 1) := by decide +kernel
theorem dX6_isSame_285 : decode cX6_isSame 285 = .ok (.invokevirtual 120, 3) := by decide +kernel
theorem dX6_isSame_288 : decode cX6_isSame 288 = .ok (.aload 4, 2) := by decide +kernel
theorem dX6_isSame_290 : decode cX6_isSame 290 = .ok (.getfield 35, 3) := by decide +kernel
theorem dX6_isSame_293 : decode cX6_isSame 293 = .ok (.if_icmp .ne 42, 3) := by decide +kernel
theorem dX6_isSame_296 : decode cX6_isSame 296 = .ok (.aload_n 1, 1) := by decide +kernel
theorem dX6_isSame_297 : decode cX6_isSame 297 = .ok (.iload_n 3, 1) := by decide +kernel
theorem dX6_isSame_298 : decode cX6_isSame 298 = .ok (.invokevirtual 123, 3) := by decide +kernel
theorem dX6_isSame_301 : decode cX6_isSame 301 = .ok (.aload 4, 2) := by decide +kernel
theorem dX6_isSame_303 : decode cX6_isSame 303 = .ok (.getfield 126, 3) := by decide +kernel
theorem dX6_isSame_306 : decode cX6_isSame 306 = .ok (.if_icmp .ne 29, 3) := by decide +kernel
theorem dX6_isSame_309 : decode cX6_isSame 309 = .ok (.aload_n 1, 1) := by decide +kernel
theorem dX6_isSame_310 : decode cX6_isSame 310 = .ok (.iload_n 3, 1) := by decide +kernel
theorem dX6_isSame_311 : decode cX6_isSame 311 = .ok (.invokevirtual 129, 3) := by decide +kernel
theorem dX6_isSame_314 : decode cX6_isSame 314 = .ok (.aload 4, 2) := by decide +kernel
theorem dX6_isSame_316 : decode cX6_isSame 316 = .ok (.invokevirtual 68, 3) := by decide +kernel
theorem dX6_isSame_319 : decode cX6_isSame 319 = .ok (.if_icmp .ne 16, 3) := by decide +kernel
theorem dX6_isSame_322 : decode cX6_isSame 322 = .ok (.aload_n 1, 1) := by decide +kernel
theorem dX6_isSame_323 : decode cX6_isSame 323 = .ok (.iload_n 3, 1) := by decide +kernel
theorem dX6_isSame_324 : decode cX6_isSame 324 = .ok (.invokevirtual 132, 3) := by decide +kernel
theorem dX6_isSame_327 : decode cX6_isSame 327 = .ok (.aload 4, 2) := by decide +kernel
theorem dX6_isSame_329 : decode cX6_isSame 329 = .ok (.invokevirtual 64, 3) := by decide +kernel
theorem dX6_isSame_332 : decode cX6_isSame 332 = .ok (.if_icmp .eq 5, 3) := by decide +kernel
theorem dX6_isSame_335 : decode cX6_isSame 335 = .ok (.iconst 0, 1) := by decide +kernel
theorem dX6_isSame_336 : decode cX6_isSame 336 = .ok (.ireturn, 1) := by decide +kernel
theorem dX6_isSame_337 : decode cX6_isSame 337 = .ok (.iconst 0, 1) := by decide +kernel
theorem dX6_isSame_338 : decode cX6_isSame 338 = .ok (.istore 5, 2) := by decide +kernel
theorem dX6_isSame_340 : decode cX6_isSame 340 = .ok (.iload 5, 2) := by decide +kernel
theorem dX6_isSame_342 : decode cX6_isSame 342 = .ok (.iconst 4, 1) := by decide +kernel
theorem dX6_isSame_343 : decode cX6_isSame 343 = .ok (.if_icmp .ge 40, 3) := by decide +kernel
theorem dX6_isSame_346 : decode cX6_isSame 346 = .ok (.aload_n 1, 1) := by decide +kernel
theorem dX6_isSame_347 : decode cX6_isSame 347 = .ok (.iload_n 3, 1) := by decide +kernel
theorem dX6_isSame_348 : decode cX6_isSame 348 = .ok (.iload 5, 2) := by decide +kernel
theorem dX6_isSame_350 : decode cX6_isSame 350 = .ok (.invokevirtual 134, 3) := by decide +kernel
theorem dX6_isSame_353 : decode cX6_isSame 353 = .ok (.aload 4, 2) := by decide +kernel
theorem dX6_isSame_355 : decode cX6_isSame 355 = .ok (.getfield 138, 3) := by decide +kernel
theorem dX6_isSame_358 : decode cX6_isSame 358 = .ok (.iload 5, 2) := by decide +kernel
theorem dX6_isSame_360 : decode cX6_isSame 360 = .ok (.iaload, 1) := by decide +kernel
theorem dX6_isSame_361 : decode cX6_isSame 361 = .ok (.if_icmp .eq 5, 3) := by decide +kernel
theorem dX6_isSame_364 : decode cX6_isSame 364 = .ok (.iconst 0, 1) := by decide +kernel
theorem dX6_isSame_365 : decode cX6_isSame 365 = .ok (.ireturn, 1) := by decide +kernel
theorem dX6_isSame_366 : decode cX6_isSame 366 = .ok (.iload_n 2, 1) := by decide +kernel
theorem dX6_isSame_367 : decode cX6_isSame 367 = .ok (.aload 4, 2) := by decide +kernel
theorem dX6_isSame_369 : decode cX6_isSame 369 = .ok (.getfield 138, 3) := by decide +kernel
theorem dX6_isSame_372 : decode cX6_isSame 372 = .ok (.iload 5, 2) := by decide +kernel
theorem dX6_isSame_374 : decode cX6_isSame 374 = .ok (.iaload, 1) := by decide +kernel
theorem dX6_isSame_375 : decode cX6_isSame 375 = .ok (.iadd, 1) := by decide +kernel
theorem dX6_isSame_376 : decode cX6_isSame 376 = .ok (.istore_n 2, 1) := by decide +kernel
theorem dX6_isSame_377 : decode cX6_isSame 377 = .ok (.iinc 5 1, 3) := by decide +kernel
theorem dX6_isSame_380 : decode cX6_isSame 380 = .ok (.goto (-40), 3) := by decide +kernel
theorem dX6_isSame_383 : decode cX6_isSame 383 = .ok (.iinc 3 1, 3) := by decide +kernel
theorem dX6_isSame_386 : decode cX6_isSame 386 = .ok (.goto (-159), 3) := by decide +kernel
theorem dX6_isSame_389 : decode cX6_isSame 389 = .ok (.aload_n 1, 1) := by decide +kernel
theorem dX6_isSame_390 : decode cX6_isSame 390 = .ok (.invokevirtual 141, 3) := by decide +kernel
theorem dX6_isSame_393 : decode cX6_isSame 393 = .ok (.aload_n 0, 1) := by decide +kernel
theorem dX6_isSame_394 : decode cX6_isSame 394 = .ok (.getfield 24, 3) := by decide +kernel
theorem dX6_isSame_397 : decode cX6_isSame 397 = .ok (.arraylength, 1) := by decide +kernel
theorem dX6_isSame_398 : decode cX6_isSame 398 = .ok (.ifCond .ne 7, 3) := by decide +kernel
theorem dX6_isSame_401 : decode cX6_isSame 401 = .ok (.dconst 0, 1) := by decide +kernel
theorem dX6_isSame_402 : decode cX6_isSame 402 = .ok (.goto 16, 3) := by decide +kernel
theorem dX6_isSame_405 : decode cX6_isSame 405 = .ok (.iload_n 2, 1) := by decide +kernel
theorem dX6_isSame_406 : decode cX6_isSame 406 = .ok (.i2d, 1) := by decide +kernel
theorem dX6_isSame_407 : decode cX6_isSame 407 = .ok (.ldc2_w 145, 3) := by decide +kernel
theorem dX6_isSame_410 : decode cX6_isSame 410 = .ok (.aload_n 0, 1) := by decide +kernel
theorem dX6_isSame_411 : decode cX6_isSame 411 = .ok (.getfield 24, 3) := by decide +kernel
theorem dX6_isSame_414 : decode cX6_isSame 414 = .ok (.arraylength, 1) := by decide +kernel
theorem dX6_isSame_415 : decode cX6_isSame 415 = .ok (.i2d, 1) := by decide +kernel
theorem dX6_isSame_416 : decode cX6_isSame 416 = .ok (.dmul, 1) := by decide +kernel
theorem dX6_isSame_417 : decode cX6_isSame 417 = .ok (.ddiv, 1) := by decide +kernel
theorem dX6_isSame_418 : decode cX6_isSame 418 = .ok (.dcmp .l, 1) := by decide +kernel
theorem dX6_isSame_419 : decode cX6_isSame 419 = .ok (.ifCond .ne 7, 3) := by decide +kernel
theorem dX6_isSame_422 : decode cX6_isSame 422 = .ok (.iconst 1, 1) := by decide +kernel
theorem dX6_isSame_423 : decode cX6_isSame 423 = .ok (.goto 4, 3) := by decide +kernel
theorem dX6_isSame_426 : decode cX6_isSame 426 = .ok (.iconst 0, 1) := by decide +kernel
theorem dX6_isSame_427 : decode cX6_isSame 427 = .ok (.ireturn, 1) := by decide +kernel
theorem dJ9_max_7cf53_0 : decode cJ9_max_7cf53 0 = .ok (.iload_n 0, 1) := by decide +kernel
theorem dJ9_max_7cf53_1 : decode cJ9_max_7cf53 1 = .ok (.iload_n 1, 1) := by decide +kernel
theorem dJ9_max_7cf53_2 : decode cJ9_max_7cf53 2 = .ok (.if_icmp .lt 7, 3) := by decide +kernel
theorem dJ9_max_7cf53_5 : decode cJ9_max_7cf53 5 = .ok (.iload_n 0, 1) := by decide +kernel
theorem dJ9_max_7cf53_6 : decode cJ9_max_7cf53 6 = .ok (.goto 4, 3) := by decide +kernel
theorem dJ9_max_7cf53_9 : decode cJ9_max_7cf53 9 = .ok (.iload_n 1, 1) := by decide +kernel
theorem dJ9_max_7cf53_10 : decode cJ9_max_7cf53 10 = .ok (.ireturn, 1) := by decide +kernel
theorem dJ9_min_7cf53_0 : decode cJ9_min_7cf53 0 = .ok (.iload_n 0, 1) := by decide +kernel
theorem dJ9_min_7cf53_1 : decode cJ9_min_7cf53 1 = .ok (.iload_n 1, 1) := by decide +kernel
theorem dJ9_min_7cf53_2 : decode cJ9_min_7cf53 2 = .ok (.if_icmp .gt 7, 3) := by decide +kernel
theorem dJ9_min_7cf53_5 : decode cJ9_min_7cf53 5 = .ok (.iload_n 0, 1) := by decide +kernel
theorem dJ9_min_7cf53_6 : decode cJ9_min_7cf53 6 = .ok (.goto 4, 3) := by decide +kernel
theorem dJ9_min_7cf53_9 : decode cJ9_min_7cf53 9 = .ok (.iload_n 1, 1) := by decide +kernel
theorem dJ9_min_7cf53_10 : decode cJ9_min_7cf53 10 = .ok (.ireturn, 1) := by decide +kernel
theorem dL_below_0 : decode cL_below 0 = .ok (.iload_n 0, 1) := by decide +kernel
theorem dL_below_1 : decode cL_below 1 = .ok (.ldc 7, 2) := by decide +kernel
theorem dL_below_3 : decode cL_below 3 = .ok (.iand, 1) := by decide +kernel
theorem dL_below_4 : decode cL_below 4 = .ok (.iload_n 1, 1) := by decide +kernel
theorem dL_below_5 : decode cL_below 5 = .ok (.irem, 1) := by decide +kernel
theorem dL_below_6 : decode cL_below 6 = .ok (.ireturn, 1) := by decide +kernel
theorem dL_cell_0 : decode cL_cell 0 = .ok (.iload_n 1, 1) := by decide +kernel
theorem dL_cell_1 : decode cL_cell 1 = .ok (.aload_n 0, 1) := by decide +kernel
theorem dL_cell_2 : decode cL_cell 2 = .ok (.arraylength, 1) := by decide +kernel
theorem dL_cell_3 : decode cL_cell 3 = .ok (.if_icmp .ge 9, 3) := by decide +kernel
theorem dL_cell_6 : decode cL_cell 6 = .ok (.aload_n 0, 1) := by decide +kernel
theorem dL_cell_7 : decode cL_cell 7 = .ok (.iload_n 1, 1) := by decide +kernel
theorem dL_cell_8 : decode cL_cell 8 = .ok (.iaload, 1) := by decide +kernel
theorem dL_cell_9 : decode cL_cell 9 = .ok (.goto 9, 3) := by decide +kernel
theorem dL_cell_12 : decode cL_cell 12 = .ok (.ldc 8, 2) := by decide +kernel
theorem dL_cell_14 : decode cL_cell 14 = .ok (.iload_n 1, 1) := by decide +kernel
theorem dL_cell_15 : decode cL_cell 15 = .ok (.iconst 3, 1) := by decide +kernel
theorem dL_cell_16 : decode cL_cell 16 = .ok (.iadd, 1) := by decide +kernel
theorem dL_cell_17 : decode cL_cell 17 = .ok (.imul, 1) := by decide +kernel
theorem dL_cell_18 : decode cL_cell 18 = .ok (.ireturn, 1) := by decide +kernel
theorem dL_act_0 : decode cL_act 0 = .ok (.aload_n 1, 1) := by decide +kernel
theorem dL_act_1 : decode cL_act 1 = .ok (.getfield 9, 3) := by decide +kernel
theorem dL_act_4 : decode cL_act 4 = .ok (.arraylength, 1) := by decide +kernel
theorem dL_act_5 : decode cL_act 5 = .ok (.istore_n 3, 1) := by decide +kernel
theorem dL_act_6 : decode cL_act 6 = .ok (.iload_n 2, 1) := by decide +kernel
theorem dL_act_7 : decode cL_act 7 = .ok (.bipush 9, 2) := by decide +kernel
theorem dL_act_9 : decode cL_act 9 = .ok (.ishr, 1) := by decide +kernel
theorem dL_act_10 : decode cL_act 10 = .ok (.bipush 24, 2) := by decide +kernel
theorem dL_act_12 : decode cL_act 12 = .ok (.invokestatic 15, 3) := by decide +kernel
theorem dL_act_15 : decode cL_act 15 = .ok (.istore 4, 2) := by decide +kernel
theorem dL_act_17 : decode cL_act 17 = .ok (.iload_n 3, 1) := by decide +kernel
theorem dL_act_18 : decode cL_act 18 = .ok (.ifCond .eq 8, 3) := by decide +kernel
theorem dL_act_21 : decode cL_act 21 = .ok (.iload 4, 2) := by decide +kernel
theorem dL_act_23 : decode cL_act 23 = .ok (.ifCond .ne 46, 3) := by decide +kernel
theorem dL_act_26 : decode cL_act 26 = .ok (.iload_n 3, 1) := by decide +kernel
theorem dL_act_27 : decode cL_act 27 = .ok (.iconst 3, 1) := by decide +kernel
theorem dL_act_28 : decode cL_act 28 = .ok (.if_icmp .ne 5, 3) := by decide +kernel
theorem dL_act_31 : decode cL_act 31 = .ok (.iconst 1, 1) := by decide +kernel
theorem dL_act_32 : decode cL_act 32 = .ok (.ireturn, 1) := by decide +kernel
theorem dL_act_33 : decode cL_act 33 = .ok (.aload_n 1, 1) := by decide +kernel
theorem dL_act_34 : decode cL_act 34 = .ok (.aload_n 1, 1) := by decide +kernel
theorem dL_act_35 : decode cL_act 35 = .ok (.getfield 9, 3) := by decide +kernel
theorem dL_act_38 : decode cL_act 38 = .ok (.iconst 2, 1) := by decide +kernel
theorem dL_act_39 : decode cL_act 39 = .ok (.newarray .int, 2) := by decide +kernel
theorem dL_act_41 : decode cL_act 41 = .ok (.dup, 1) := by decide +kernel
theorem dL_act_42 : decode cL_act 42 = .ok (.iconst 0, 1) := by decide +kernel
theorem dL_act_43 : decode cL_act 43 = .ok (.iconst 0, 1) := by decide +kernel
theorem dL_act_44 : decode cL_act 44 = .ok (.iastore, 1) := by decide +kernel
theorem dL_act_45 : decode cL_act 45 = .ok (.dup, 1) := by decide +kernel
theorem dL_act_46 : decode cL_act 46 = .ok (.iconst 1, 1) := by decide +kernel
theorem dL_act_47 : decode cL_act 47 = .ok (.iconst 0, 1) := by decide +kernel
theorem dL_act_48 : decode cL_act 48 = .ok (.iastore, 1) := by decide +kernel
theorem dL_act_49 : decode cL_act 49 = .ok (.invokestatic 21, 3) := by decide +kernel
theorem dL_act_52 : decode cL_act 52 = .ok (.putfield 9, 3) := by decide +kernel
theorem dL_act_55 : decode cL_act 55 = .ok (.aload_n 0, 1) := by decide +kernel
theorem dL_act_56 : decode cL_act 56 = .ok (.invokevirtual 25, 3) := by decide +kernel
theorem dL_act_59 : decode cL_act 59 = .ok (.iload_n 3, 1) := by decide +kernel
theorem dL_act_60 : decode cL_act 60 = .ok (.if_icmp .ne 7, 3) := by decide +kernel
theorem dL_act_63 : decode cL_act 63 = .ok (.iconst 1, 1) := by decide +kernel
theorem dL_act_64 : decode cL_act 64 = .ok (.goto 4, 3) := by decide +kernel
theorem dL_act_67 : decode cL_act 67 = .ok (.iconst 0, 1) := by decide +kernel
theorem dL_act_68 : decode cL_act 68 = .ok (.ireturn, 1) := by decide +kernel
theorem dL_act_69 : decode cL_act 69 = .ok (.iload_n 2, 1) := by decide +kernel
theorem dL_act_70 : decode cL_act 70 = .ok (.iconst 1, 1) := by decide +kernel
theorem dL_act_71 : decode cL_act 71 = .ok (.ishr, 1) := by decide +kernel
theorem dL_act_72 : decode cL_act 72 = .ok (.iload_n 3, 1) := by decide +kernel
theorem dL_act_73 : decode cL_act 73 = .ok (.invokestatic 15, 3) := by decide +kernel
theorem dL_act_76 : decode cL_act 76 = .ok (.istore 5, 2) := by decide +kernel
theorem dL_act_78 : decode cL_act 78 = .ok (.aload_n 1, 1) := by decide +kernel
theorem dL_act_79 : decode cL_act 79 = .ok (.getfield 31, 3) := by decide +kernel
theorem dL_act_82 : decode cL_act 82 = .ok (.arraylength, 1) := by decide +kernel
theorem dL_act_83 : decode cL_act 83 = .ok (.istore 6, 2) := by decide +kernel
theorem dL_act_85 : decode cL_act 85 = .ok (.iload 6, 2) := by decide +kernel
theorem dL_act_87 : decode cL_act 87 = .ok (.ifCond .eq 9, 3) := by decide +kernel
theorem dL_act_90 : decode cL_act 90 = .ok (.iload 4, 2) := by decide +kernel
theorem dL_act_92 : decode cL_act 92 = .ok (.iconst 3, 1) := by decide +kernel
theorem dL_act_93 : decode cL_act 93 = .ok (.if_icmp .ge 86, 3) := by decide +kernel
theorem dL_act_96 : decode cL_act 96 = .ok (.iload 6, 2) := by decide +kernel
theorem dL_act_98 : decode cL_act 98 = .ok (.bipush 6, 2) := by decide +kernel
theorem dL_act_100 : decode cL_act 100 = .ok (.if_icmp .ne 5, 3) := by decide +kernel
theorem dL_act_103 : decode cL_act 103 = .ok (.iconst 1, 1) := by decide +kernel
theorem dL_act_104 : decode cL_act 104 = .ok (.ireturn, 1) := by decide +kernel
theorem dL_act_105 : decode cL_act 105 = .ok (.aload_n 1, 1) := by decide +kernel
theorem dL_act_106 : decode cL_act 106 = .ok (.aload_n 1, 1) := by decide +kernel
theorem dL_act_107 : decode cL_act 107 = .ok (.getfield 31, 3) := by decide +kernel
theorem dL_act_110 : decode cL_act 110 = .ok (.bipush 6, 2) := by decide +kernel
theorem dL_act_112 : decode cL_act 112 = .ok (.newarray .int, 2) := by decide +kernel
theorem dL_act_114 : decode cL_act 114 = .ok (.dup, 1) := by decide +kernel
theorem dL_act_115 : decode cL_act 115 = .ok (.iconst 0, 1) := by decide +kernel
theorem dL_act_116 : decode cL_act 116 = .ok (.iload 5, 2) := by decide +kernel
theorem dL_act_118 : decode cL_act 118 = .ok (.iastore, 1) := by decide +kernel
theorem dL_act_119 : decode cL_act 119 = .ok (.dup, 1) := by decide +kernel
theorem dL_act_120 : decode cL_act 120 = .ok (.iconst 1, 1) := by decide +kernel
theorem dL_act_121 : decode cL_act 121 = .ok (.iconst 1, 1) := by decide +kernel
theorem dL_act_122 : decode cL_act 122 = .ok (.iload_n 2, 1) := by decide +kernel
theorem dL_act_123 : decode cL_act 123 = .ok (.iconst 3, 1) := by decide +kernel
theorem dL_act_124 : decode cL_act 124 = .ok (.ishr, 1) := by decide +kernel
theorem dL_act_125 : decode cL_act 125 = .ok (.iconst 3, 1) := by decide +kernel
theorem dL_act_126 : decode cL_act 126 = .ok (.invokestatic 15, 3) := by decide +kernel
theorem dL_act_129 : decode cL_act 129 = .ok (.iadd, 1) := by decide +kernel
theorem dL_act_130 : decode cL_act 130 = .ok (.iastore, 1) := by decide +kernel
theorem dL_act_131 : decode cL_act 131 = .ok (.dup, 1) := by decide +kernel
theorem dL_act_132 : decode cL_act 132 = .ok (.iconst 2, 1) := by decide +kernel
theorem dL_act_133 : decode cL_act 133 = .ok (.iconst 0, 1) := by decide +kernel
theorem dL_act_134 : decode cL_act 134 = .ok (.iastore, 1) := by decide +kernel
theorem dL_act_135 : decode cL_act 135 = .ok (.dup, 1) := by decide +kernel
theorem dL_act_136 : decode cL_act 136 = .ok (.iconst 3, 1) := by decide +kernel
theorem dL_act_137 : decode cL_act 137 = .ok (.iconst (-1), 1) := by decide +kernel
theorem dL_act_138 : decode cL_act 138 = .ok (.iastore, 1) := by decide +kernel
theorem dL_act_139 : decode cL_act 139 = .ok (.dup, 1) := by decide +kernel
theorem dL_act_140 : decode cL_act 140 = .ok (.iconst 4, 1) := by decide +kernel
theorem dL_act_141 : decode cL_act 141 = .ok (.iconst 0, 1) := by decide +kernel
theorem dL_act_142 : decode cL_act 142 = .ok (.iastore, 1) := by decide +kernel
theorem dL_act_143 : decode cL_act 143 = .ok (.dup, 1) := by decide +kernel
theorem dL_act_144 : decode cL_act 144 = .ok (.iconst 5, 1) := by decide +kernel
theorem dL_act_145 : decode cL_act 145 = .ok (.iconst 0, 1) := by decide +kernel
theorem dL_act_146 : decode cL_act 146 = .ok (.iastore, 1) := by decide +kernel
theorem dL_act_147 : decode cL_act 147 = .ok (.invokestatic 21, 3) := by decide +kernel
theorem dL_act_150 : decode cL_act 150 = .ok (.putfield 31, 3) := by decide +kernel
theorem dL_act_153 : decode cL_act 153 = .ok (.aload_n 0, 1) := by decide +kernel
theorem dL_act_154 : decode cL_act 154 = .ok (.iload 5, 2) := by decide +kernel
theorem dL_act_156 : decode cL_act 156 = .ok (.iconst 1, 1) := by decide +kernel
theorem dL_act_157 : decode cL_act 157 = .ok (.iload_n 2, 1) := by decide +kernel
theorem dL_act_158 : decode cL_act 158 = .ok (.iconst 3, 1) := by decide +kernel
theorem dL_act_159 : decode cL_act 159 = .ok (.ishr, 1) := by decide +kernel
theorem dL_act_160 : decode cL_act 160 = .ok (.iconst 3, 1) := by decide +kernel
theorem dL_act_161 : decode cL_act 161 = .ok (.invokestatic 15, 3) := by decide +kernel
theorem dL_act_164 : decode cL_act 164 = .ok (.iadd, 1) := by decide +kernel
theorem dL_act_165 : decode cL_act 165 = .ok (.invokevirtual 34, 3) := by decide +kernel
theorem dL_act_168 : decode cL_act 168 = .ok (.iload 6, 2) := by decide +kernel
theorem dL_act_170 : decode cL_act 170 = .ok (.if_icmp .ne 7, 3) := by decide +kernel
theorem dL_act_173 : decode cL_act 173 = .ok (.iconst 1, 1) := by decide +kernel
theorem dL_act_174 : decode cL_act 174 = .ok (.goto 4, 3) := by decide +kernel
theorem dL_act_177 : decode cL_act 177 = .ok (.iconst 0, 1) := by decide +kernel
theorem dL_act_178 : decode cL_act 178 = .ok (.ireturn, 1) := by decide +kernel
theorem dL_act_179 : decode cL_act 179 = .ok (.iload_n 2, 1) := by decide +kernel
theorem dL_act_180 : decode cL_act 180 = .ok (.iconst 2, 1) := by decide +kernel
theorem dL_act_181 : decode cL_act 181 = .ok (.ishr, 1) := by decide +kernel
theorem dL_act_182 : decode cL_act 182 = .ok (.iload 6, 2) := by decide +kernel
theorem dL_act_184 : decode cL_act 184 = .ok (.invokestatic 15, 3) := by decide +kernel
theorem dL_act_187 : decode cL_act 187 = .ok (.istore 7, 2) := by decide +kernel
theorem dL_act_189 : decode cL_act 189 = .ok (.aload_n 1, 1) := by decide +kernel
theorem dL_act_190 : decode cL_act 190 = .ok (.getfield 31, 3) := by decide +kernel
theorem dL_act_193 : decode cL_act 193 = .ok (.iload 7, 2) := by decide +kernel
theorem dL_act_195 : decode cL_act 195 = .ok (.aaload, 1) := by decide +kernel
theorem dL_act_196 : decode cL_act 196 = .ok (.astore 8, 2) := by decide +kernel
theorem dL_act_198 : decode cL_act 198 = .ok (.iload 4, 2) := by decide +kernel
theorem dL_act_200 : decode cL_act 200 = .ok (.tableswitch 566 3 18 #[80, 80, 80, 157, 197, 197, 197, 241, 293, 293, 293, 361, 415, 415, 472, 528], 80) := by decide +kernel
theorem dL_act_280 : decode cL_act 280 = .ok (.iconst 1, 1) := by decide +kernel
theorem dL_act_281 : decode cL_act 281 = .ok (.iload_n 2, 1) := by decide +kernel
theorem dL_act_282 : decode cL_act 282 = .ok (.iconst 4, 1) := by decide +kernel
theorem dL_act_283 : decode cL_act 283 = .ok (.ishr, 1) := by decide +kernel
theorem dL_act_284 : decode cL_act 284 = .ok (.iload_n 2, 1) := by decide +kernel
theorem dL_act_285 : decode cL_act 285 = .ok (.iconst 3, 1) := by decide +kernel
theorem dL_act_286 : decode cL_act 286 = .ok (.invokestatic 15, 3) := by decide +kernel
theorem dL_act_289 : decode cL_act 289 = .ok (.ifCond .ne 8, 3) := by decide +kernel
theorem dL_act_292 : decode cL_act 292 = .ok (.bipush 40, 2) := by decide +kernel
theorem dL_act_294 : decode cL_act 294 = .ok (.goto 5, 3) := by decide +kernel
theorem dL_act_297 : decode cL_act 297 = .ok (.bipush 12, 2) := by decide +kernel
theorem dL_act_299 : decode cL_act 299 = .ok (.invokestatic 15, 3) := by decide +kernel
theorem dL_act_302 : decode cL_act 302 = .ok (.iadd, 1) := by decide +kernel
theorem dL_act_303 : decode cL_act 303 = .ok (.istore 9, 2) := by decide +kernel
theorem dL_act_305 : decode cL_act 305 = .ok (.aload_n 1, 1) := by decide +kernel
theorem dL_act_306 : decode cL_act 306 = .ok (.getfield 9, 3) := by decide +kernel
theorem dL_act_309 : decode cL_act 309 = .ok (.iload 5, 2) := by decide +kernel
theorem dL_act_311 : decode cL_act 311 = .ok (.aaload, 1) := by decide +kernel
theorem dL_act_312 : decode cL_act 312 = .ok (.iconst 0, 1) := by decide +kernel
theorem dL_act_313 : decode cL_act 313 = .ok (.bipush 40, 2) := by decide +kernel
theorem dL_act_315 : decode cL_act 315 = .ok (.aload_n 1, 1) := by decide +kernel
theorem dL_act_316 : decode cL_act 316 = .ok (.getfield 9, 3) := by decide +kernel
theorem dL_act_319 : decode cL_act 319 = .ok (.iload 5, 2) := by decide +kernel
theorem dL_act_321 : decode cL_act 321 = .ok (.aaload, 1) := by decide +kernel
theorem dL_act_322 : decode cL_act 322 = .ok (.iconst 0, 1) := by decide +kernel
theorem dL_act_323 : decode cL_act 323 = .ok (.iaload, 1) := by decide +kernel
theorem dL_act_324 : decode cL_act 324 = .ok (.iload 9, 2) := by decide +kernel
theorem dL_act_326 : decode cL_act 326 = .ok (.iadd, 1) := by decide +kernel
theorem dL_act_327 : decode cL_act 327 = .ok (.invokestatic 37, 3) := by decide +kernel
theorem dL_act_330 : decode cL_act 330 = .ok (.iastore, 1) := by decide +kernel
theorem dL_act_331 : decode cL_act 331 = .ok (.aload_n 0, 1) := by decide +kernel
theorem dL_act_332 : decode cL_act 332 = .ok (.iload 5, 2) := by decide +kernel
theorem dL_act_334 : decode cL_act 334 = .ok (.iload 9, 2) := by decide +kernel
theorem dL_act_336 : decode cL_act 336 = .ok (.invokevirtual 42, 3) := by decide +kernel
theorem dL_act_339 : decode cL_act 339 = .ok (.aload_n 1, 1) := by decide +kernel
theorem dL_act_340 : decode cL_act 340 = .ok (.getfield 9, 3) := by decide +kernel
theorem dL_act_343 : decode cL_act 343 = .ok (.iload 5, 2) := by decide +kernel
theorem dL_act_345 : decode cL_act 345 = .ok (.aaload, 1) := by decide +kernel
theorem dL_act_346 : decode cL_act 346 = .ok (.iconst 0, 1) := by decide +kernel
theorem dL_act_347 : decode cL_act 347 = .ok (.iaload, 1) := by decide +kernel
theorem dL_act_348 : decode cL_act 348 = .ok (.if_icmp .ne 7, 3) := by decide +kernel
theorem dL_act_351 : decode cL_act 351 = .ok (.iconst 1, 1) := by decide +kernel
theorem dL_act_352 : decode cL_act 352 = .ok (.goto 4, 3) := by decide +kernel
theorem dL_act_355 : decode cL_act 355 = .ok (.iconst 0, 1) := by decide +kernel
theorem dL_act_356 : decode cL_act 356 = .ok (.ireturn, 1) := by decide +kernel
theorem dL_act_357 : decode cL_act 357 = .ok (.aload 8, 2) := by decide +kernel
theorem dL_act_359 : decode cL_act 359 = .ok (.iconst 1, 1) := by decide +kernel
theorem dL_act_360 : decode cL_act 360 = .ok (.iaload, 1) := by decide +kernel
theorem dL_act_361 : decode cL_act 361 = .ok (.istore 10, 2) := by decide +kernel
theorem dL_act_363 : decode cL_act 363 = .ok (.aload 8, 2) := by decide +kernel
theorem dL_act_365 : decode cL_act 365 = .ok (.iconst 1, 1) := by decide +kernel
theorem dL_act_366 : decode cL_act 366 = .ok (.iconst 1, 1) := by decide +kernel
theorem dL_act_367 : decode cL_act 367 = .ok (.iload_n 2, 1) := by decide +kernel
theorem dL_act_368 : decode cL_act 368 = .ok (.iconst 4, 1) := by decide +kernel
theorem dL_act_369 : decode cL_act 369 = .ok (.ishr, 1) := by decide +kernel
theorem dL_act_370 : decode cL_act 370 = .ok (.iconst 3, 1) := by decide +kernel
theorem dL_act_371 : decode cL_act 371 = .ok (.invokestatic 15, 3) := by decide +kernel
theorem dL_act_374 : decode cL_act 374 = .ok (.iadd, 1) := by decide +kernel
theorem dL_act_375 : decode cL_act 375 = .ok (.iastore, 1) := by decide +kernel
theorem dL_act_376 : decode cL_act 376 = .ok (.aload_n 0, 1) := by decide +kernel
theorem dL_act_377 : decode cL_act 377 = .ok (.iload 7, 2) := by decide +kernel
theorem dL_act_379 : decode cL_act 379 = .ok (.aload 8, 2) := by decide +kernel
theorem dL_act_381 : decode cL_act 381 = .ok (.iconst 1, 1) := by decide +kernel
theorem dL_act_382 : decode cL_act 382 = .ok (.iaload, 1) := by decide +kernel
theorem dL_act_383 : decode cL_act 383 = .ok (.invokevirtual 45, 3) := by decide +kernel
theorem dL_act_386 : decode cL_act 386 = .ok (.iload 10, 2) := by decide +kernel
theorem dL_act_388 : decode cL_act 388 = .ok (.if_icmp .ne 7, 3) := by decide +kernel
theorem dL_act_391 : decode cL_act 391 = .ok (.iconst 1, 1) := by decide +kernel
theorem dL_act_392 : decode cL_act 392 = .ok (.goto 4, 3) := by decide +kernel
theorem dL_act_395 : decode cL_act 395 = .ok (.iconst 0, 1) := by decide +kernel
theorem dL_act_396 : decode cL_act 396 = .ok (.ireturn, 1) := by decide +kernel
theorem dL_act_397 : decode cL_act 397 = .ok (.aload 8, 2) := by decide +kernel
theorem dL_act_399 : decode cL_act 399 = .ok (.iconst 5, 1) := by decide +kernel
theorem dL_act_400 : decode cL_act 400 = .ok (.iaload, 1) := by decide +kernel
theorem dL_act_401 : decode cL_act 401 = .ok (.istore 11, 2) := by decide +kernel
theorem dL_act_403 : decode cL_act 403 = .ok (.aload 8, 2) := by decide +kernel
theorem dL_act_405 : decode cL_act 405 = .ok (.iconst 5, 1) := by decide +kernel
theorem dL_act_406 : decode cL_act 406 = .ok (.iload_n 2, 1) := by decide +kernel
theorem dL_act_407 : decode cL_act 407 = .ok (.iconst 4, 1) := by decide +kernel
theorem dL_act_408 : decode cL_act 408 = .ok (.ishr, 1) := by decide +kernel
theorem dL_act_409 : decode cL_act 409 = .ok (.bipush 10, 2) := by decide +kernel
theorem dL_act_411 : decode cL_act 411 = .ok (.invokestatic 15, 3) := by decide +kernel
theorem dL_act_414 : decode cL_act 414 = .ok (.iastore, 1) := by decide +kernel
theorem dL_act_415 : decode cL_act 415 = .ok (.aload 8, 2) := by decide +kernel
theorem dL_act_417 : decode cL_act 417 = .ok (.iconst 4, 1) := by decide +kernel
theorem dL_act_418 : decode cL_act 418 = .ok (.iconst 0, 1) := by decide +kernel
theorem dL_act_419 : decode cL_act 419 = .ok (.iastore, 1) := by decide +kernel
theorem dL_act_420 : decode cL_act 420 = .ok (.aload_n 0, 1) := by decide +kernel
theorem dL_act_421 : decode cL_act 421 = .ok (.iload 7, 2) := by decide +kernel
theorem dL_act_423 : decode cL_act 423 = .ok (.aload 8, 2) := by decide +kernel
theorem dL_act_425 : decode cL_act 425 = .ok (.iconst 5, 1) := by decide +kernel
theorem dL_act_426 : decode cL_act 426 = .ok (.iaload, 1) := by decide +kernel
theorem dL_act_427 : decode cL_act 427 = .ok (.invokevirtual 48, 3) := by decide +kernel
theorem dL_act_430 : decode cL_act 430 = .ok (.iload 11, 2) := by decide +kernel
theorem dL_act_432 : decode cL_act 432 = .ok (.if_icmp .ne 7, 3) := by decide +kernel
theorem dL_act_435 : decode cL_act 435 = .ok (.iconst 1, 1) := by decide +kernel
theorem dL_act_436 : decode cL_act 436 = .ok (.goto 4, 3) := by decide +kernel
theorem dL_act_439 : decode cL_act 439 = .ok (.iconst 0, 1) := by decide +kernel
theorem dL_act_440 : decode cL_act 440 = .ok (.ireturn, 1) := by decide +kernel
theorem dL_act_441 : decode cL_act 441 = .ok (.aload_n 1, 1) := by decide +kernel
theorem dL_act_442 : decode cL_act 442 = .ok (.getfield 51, 3) := by decide +kernel
theorem dL_act_445 : decode cL_act 445 = .ok (.istore 12, 2) := by decide +kernel
theorem dL_act_447 : decode cL_act 447 = .ok (.aload_n 1, 1) := by decide +kernel
theorem dL_act_448 : decode cL_act 448 = .ok (.iload_n 2, 1) := by decide +kernel
theorem dL_act_449 : decode cL_act 449 = .ok (.iconst 3, 1) := by decide +kernel
theorem dL_act_450 : decode cL_act 450 = .ok (.ishr, 1) := by decide +kernel
theorem dL_act_451 : decode cL_act 451 = .ok (.iload_n 2, 1) := by decide +kernel
theorem dL_act_452 : decode cL_act 452 = .ok (.iconst 2, 1) := by decide +kernel
theorem dL_act_453 : decode cL_act 453 = .ok (.invokestatic 15, 3) := by decide +kernel
theorem dL_act_456 : decode cL_act 456 = .ok (.ifCond .ne 9, 3) := by decide +kernel
theorem dL_act_459 : decode cL_act 459 = .ok (.sipush 5001, 3) := by decide +kernel
theorem dL_act_462 : decode cL_act 462 = .ok (.goto 6, 3) := by decide +kernel
theorem dL_act_465 : decode cL_act 465 = .ok (.sipush 400, 3) := by decide +kernel
theorem dL_act_468 : decode cL_act 468 = .ok (.invokestatic 15, 3) := by decide +kernel
theorem dL_act_471 : decode cL_act 471 = .ok (.putfield 51, 3) := by decide +kernel
theorem dL_act_474 : decode cL_act 474 = .ok (.aload_n 0, 1) := by decide +kernel
theorem dL_act_475 : decode cL_act 475 = .ok (.aload_n 1, 1) := by decide +kernel
theorem dL_act_476 : decode cL_act 476 = .ok (.getfield 51, 3) := by decide +kernel
theorem dL_act_479 : decode cL_act 479 = .ok (.invokevirtual 55, 3) := by decide +kernel
theorem dL_act_482 : decode cL_act 482 = .ok (.iload 12, 2) := by decide +kernel
theorem dL_act_484 : decode cL_act 484 = .ok (.if_icmp .ne 7, 3) := by decide +kernel
theorem dL_act_487 : decode cL_act 487 = .ok (.iconst 1, 1) := by decide +kernel
theorem dL_act_488 : decode cL_act 488 = .ok (.goto 4, 3) := by decide +kernel
theorem dL_act_491 : decode cL_act 491 = .ok (.iconst 0, 1) := by decide +kernel
theorem dL_act_492 : decode cL_act 492 = .ok (.ireturn, 1) := by decide +kernel
theorem dL_act_493 : decode cL_act 493 = .ok (.aload 8, 2) := by decide +kernel
theorem dL_act_495 : decode cL_act 495 = .ok (.iconst 3, 1) := by decide +kernel
theorem dL_act_496 : decode cL_act 496 = .ok (.iaload, 1) := by decide +kernel
theorem dL_act_497 : decode cL_act 497 = .ok (.ifCond .ge 13, 3) := by decide +kernel
theorem dL_act_500 : decode cL_act 500 = .ok (.aload_n 1, 1) := by decide +kernel
theorem dL_act_501 : decode cL_act 501 = .ok (.getfield 59, 3) := by decide +kernel
theorem dL_act_504 : decode cL_act 504 = .ok (.arraylength, 1) := by decide +kernel
theorem dL_act_505 : decode cL_act 505 = .ok (.bipush 16, 2) := by decide +kernel
theorem dL_act_507 : decode cL_act 507 = .ok (.if_icmp .ne 5, 3) := by decide +kernel
theorem dL_act_510 : decode cL_act 510 = .ok (.iconst 1, 1) := by decide +kernel
theorem dL_act_511 : decode cL_act 511 = .ok (.ireturn, 1) := by decide +kernel
theorem dL_act_512 : decode cL_act 512 = .ok (.iconst 1, 1) := by decide +kernel
theorem dL_act_513 : decode cL_act 513 = .ok (.iload_n 2, 1) := by decide +kernel
theorem dL_act_514 : decode cL_act 514 = .ok (.iconst 4, 1) := by decide +kernel
theorem dL_act_515 : decode cL_act 515 = .ok (.ishr, 1) := by decide +kernel
theorem dL_act_516 : decode cL_act 516 = .ok (.iload_n 2, 1) := by decide +kernel
theorem dL_act_517 : decode cL_act 517 = .ok (.iconst 2, 1) := by decide +kernel
theorem dL_act_518 : decode cL_act 518 = .ok (.invokestatic 15, 3) := by decide +kernel
theorem dL_act_521 : decode cL_act 521 = .ok (.ifCond .ne 8, 3) := by decide +kernel
theorem dL_act_524 : decode cL_act 524 = .ok (.bipush 12, 2) := by decide +kernel
theorem dL_act_526 : decode cL_act 526 = .ok (.goto 4, 3) := by decide +kernel
theorem dL_act_529 : decode cL_act 529 = .ok (.iconst 4, 1) := by decide +kernel
theorem dL_act_530 : decode cL_act 530 = .ok (.invokestatic 15, 3) := by decide +kernel
theorem dL_act_533 : decode cL_act 533 = .ok (.iadd, 1) := by decide +kernel
theorem dL_act_534 : decode cL_act 534 = .ok (.istore 13, 2) := by decide +kernel
theorem dL_act_536 : decode cL_act 536 = .ok (.aload_n 0, 1) := by decide +kernel
theorem dL_act_537 : decode cL_act 537 = .ok (.iload 7, 2) := by decide +kernel
theorem dL_act_539 : decode cL_act 539 = .ok (.iload 13, 2) := by decide +kernel
theorem dL_act_541 : decode cL_act 541 = .ok (.invokevirtual 63, 3) := by decide +kernel
theorem dL_act_544 : decode cL_act 544 = .ok (.aload_n 1, 1) := by decide +kernel
theorem dL_act_545 : decode cL_act 545 = .ok (.iload 7, 2) := by decide +kernel
theorem dL_act_547 : decode cL_act 547 = .ok (.iload 13, 2) := by decide +kernel
theorem dL_act_549 : decode cL_act 549 = .ok (.invokevirtual 66, 3) := by decide +kernel
theorem dL_act_552 : decode cL_act 552 = .ok (.if_icmp .ne 7, 3) := by decide +kernel
theorem dL_act_555 : decode cL_act 555 = .ok (.iconst 1, 1) := by decide +kernel
theorem dL_act_556 : decode cL_act 556 = .ok (.goto 4, 3) := by decide +kernel
theorem dL_act_559 : decode cL_act 559 = .ok (.iconst 0, 1) := by decide +kernel
theorem dL_act_560 : decode cL_act 560 = .ok (.ireturn, 1) := by decide +kernel
theorem dL_act_561 : decode cL_act 561 = .ok (.aload 8, 2) := by decide +kernel
theorem dL_act_563 : decode cL_act 563 = .ok (.iconst 3, 1) := by decide +kernel
theorem dL_act_564 : decode cL_act 564 = .ok (.iaload, 1) := by decide +kernel
theorem dL_act_565 : decode cL_act 565 = .ok (.ifCond .ge 5, 3) := by decide +kernel
theorem dL_act_568 : decode cL_act 568 = .ok (.iconst 1, 1) := by decide +kernel
theorem dL_act_569 : decode cL_act 569 = .ok (.ireturn, 1) := by decide +kernel
theorem dL_act_570 : decode cL_act 570 = .ok (.aload_n 1, 1) := by decide +kernel
theorem dL_act_571 : decode cL_act 571 = .ok (.getfield 59, 3) := by decide +kernel
theorem dL_act_574 : decode cL_act 574 = .ok (.aload 8, 2) := by decide +kernel
theorem dL_act_576 : decode cL_act 576 = .ok (.iconst 3, 1) := by decide +kernel
theorem dL_act_577 : decode cL_act 577 = .ok (.iaload, 1) := by decide +kernel
