theorem dX9_init_202 : decode cX9_init 202 = .ok (.bipush 10, 2) := by decide +kernel
theorem dX9_init_204 : decode cX9_init 204 = .ok (.newarray .int, 2) := by decide +kernel
theorem dX9_init_206 : decode cX9_init 206 = .ok (.putfield 83, 3) := by decide +kernel
theorem dX9_init_209 : decode cX9_init 209 = .ok (.aload_n 0, 1) := by decide +kernel
theorem dX9_init_210 : decode cX9_init 210 = .ok (.bipush 10, 2) := by decide +kernel
theorem dX9_init_212 : decode cX9_init 212 = .ok (.newarray .int, 2) := by decide +kernel
theorem dX9_init_214 : decode cX9_init 214 = .ok (.putfield 86, 3) := by decide +kernel
theorem dX9_init_217 : decode cX9_init 217 = .ok (.aload_n 0, 1) := by decide +kernel
theorem dX9_init_218 : decode cX9_init 218 = .ok (.bipush 10, 2) := by decide +kernel
theorem dX9_init_220 : decode cX9_init 220 = .ok (.newarray .int, 2) := by decide +kernel
theorem dX9_init_222 : decode cX9_init 222 = .ok (.putfield 89, 3) := by decide +kernel
theorem dX9_init_225 : decode cX9_init 225 = .ok (.aload_n 0, 1) := by decide +kernel
theorem dX9_init_226 : decode cX9_init 226 = .ok (.bipush 10, 2) := by decide +kernel
theorem dX9_init_228 : decode cX9_init 228 = .ok (.newarray .int, 2) := by decide +kernel
theorem dX9_init_230 : decode cX9_init 230 = .ok (.putfield 92, 3) := by decide +kernel
theorem dX9_init_233 : decode cX9_init 233 = .ok (.aload_n 0, 1) := by decide +kernel
theorem dX9_init_234 : decode cX9_init 234 = .ok (.bipush 10, 2) := by decide +kernel
theorem dX9_init_236 : decode cX9_init 236 = .ok (.newarray .int, 2) := by decide +kernel
theorem dX9_init_238 : decode cX9_init 238 = .ok (.putfield 95, 3) := by decide +kernel
theorem dX9_init_241 : decode cX9_init 241 = .ok (.aload_n 0, 1) := by decide +kernel
theorem dX9_init_242 : decode cX9_init 242 = .ok (.bipush 10, 2) := by decide +kernel
theorem dX9_init_244 : decode cX9_init 244 = .ok (.newarray .int, 2) := by decide +kernel
theorem dX9_init_246 : decode cX9_init 246 = .ok (.putfield 98, 3) := by decide +kernel
theorem dX9_init_249 : decode cX9_init 249 = .ok (.aload_n 0, 1) := by decide +kernel
theorem dX9_init_250 : decode cX9_init 250 = .ok (.sipush 420, 3) := by decide +kernel
theorem dX9_init_253 : decode cX9_init 253 = .ok (.newarray .int, 2) := by decide +kernel
theorem dX9_init_255 : decode cX9_init 255 = .ok (.putfield 101, 3) := by decide +kernel
theorem dX9_init_258 : decode cX9_init 258 = .ok (.aload_n 0, 1) := by decide +kernel
theorem dX9_init_259 : decode cX9_init 259 = .ok (.bipush 60, 2) := by decide +kernel
theorem dX9_init_261 : decode cX9_init 261 = .ok (.newarray .int, 2) := by decide +kernel
theorem dX9_init_263 : decode cX9_init 263 = .ok (.putfield 104, 3) := by decide +kernel
theorem dX9_init_266 : decode cX9_init 266 = .ok (.aload_n 0, 1) := by decide +kernel
theorem dX9_init_267 : decode cX9_init 267 = .ok (.bipush 10, 2) := by decide +kernel
theorem dX9_init_269 : decode cX9_init 269 = .ok (.newarray .int, 2) := by decide +kernel
theorem dX9_init_271 : decode cX9_init 271 = .ok (.putfield 107, 3) := by decide +kernel
theorem dX9_init_274 : decode cX9_init 274 = .ok (.aload_n 0, 1) := by decide +kernel
theorem dX9_init_275 : decode cX9_init 275 = .ok (.bipush 80, 2) := by decide +kernel
theorem dX9_init_277 : decode cX9_init 277 = .ok (.newarray .int, 2) := by decide +kernel
theorem dX9_init_279 : decode cX9_init 279 = .ok (.putfield 110, 3) := by decide +kernel
theorem dX9_init_282 : decode cX9_init 282 = .ok (.aload_n 0, 1) := by decide +kernel
theorem dX9_init_283 : decode cX9_init 283 = .ok (.bipush 80, 2) := by decide +kernel
theorem dX9_init_285 : decode cX9_init 285 = .ok (.newarray .int, 2) := by decide +kernel
theorem dX9_init_287 : decode cX9_init 287 = .ok (.putfield 113, 3) := by decide +kernel
theorem dX9_init_290 : decode cX9_init 290 = .ok (.aload_n 0, 1) := by decide +kernel
theorem dX9_init_291 : decode cX9_init 291 = .ok (.bipush 10, 2) := by decide +kernel
theorem dX9_init_293 : decode cX9_init 293 = .ok (.newarray .int, 2) := by decide +kernel
theorem dX9_init_295 : decode cX9_init 295 = .ok (.putfield 116, 3) := by decide +kernel
theorem dX9_init_298 : decode cX9_init 298 = .ok (.aload_n 0, 1) := by decide +kernel
theorem dX9_init_299 : decode cX9_init 299 = .ok (.ldc 119, 2) := by decide +kernel
theorem dX9_init_301 : decode cX9_init 301 = .ok (.newarray .int, 2) := by decide +kernel
theorem dX9_init_303 : decode cX9_init 303 = .ok (.putfield 120, 3) := by decide +kernel
theorem dX9_init_306 : decode cX9_init 306 = .ok (.aload_n 0, 1) := by decide +kernel
theorem dX9_init_307 : decode cX9_init 307 = .ok (.bipush 10, 2) := by decide +kernel
theorem dX9_init_309 : decode cX9_init 309 = .ok (.newarray .int, 2) := by decide +kernel
theorem dX9_init_311 : decode cX9_init 311 = .ok (.putfield 123, 3) := by decide +kernel
theorem dX9_init_314 : decode cX9_init 314 = .ok (.aload_n 0, 1) := by decide +kernel
theorem dX9_init_315 : decode cX9_init 315 = .ok (.bipush 10, 2) := by decide +kernel
theorem dX9_init_317 : decode cX9_init 317 = .ok (.newarray .int, 2) := by decide +kernel
theorem dX9_init_319 : decode cX9_init 319 = .ok (.putfield 126, 3) := by decide +kernel
theorem dX9_init_322 : decode cX9_init 322 = .ok (.aload_n 0, 1) := by decide +kernel
theorem dX9_init_323 : decode cX9_init 323 = .ok (.sipush 800, 3) := by decide +kernel
theorem dX9_init_326 : decode cX9_init 326 = .ok (.newarray .int, 2) := by decide +kernel
theorem dX9_init_328 : decode cX9_init 328 = .ok (.putfield 129, 3) := by decide +kernel
theorem dX9_init_331 : decode cX9_init 331 = .ok (.aload_n 0, 1) := by decide +kernel
theorem dX9_init_332 : decode cX9_init 332 = .ok (.bipush 10, 2) := by decide +kernel
theorem dX9_init_334 : decode cX9_init 334 = .ok (.newarray .int, 2) := by decide +kernel
theorem dX9_init_336 : decode cX9_init 336 = .ok (.putfield 132, 3) := by decide +kernel
theorem dX9_init_339 : decode cX9_init 339 = .ok (.aload_n 0, 1) := by decide +kernel
theorem dX9_init_340 : decode cX9_init 340 = .ok (.bipush 10, 2) := by decide +kernel
theorem dX9_init_342 : decode cX9_init 342 = .ok (.newarray .int, 2) := by decide +kernel
theorem dX9_init_344 : decode cX9_init 344 = .ok (.putfield 135, 3) := by decide +kernel
theorem dX9_init_347 : decode cX9_init 347 = .ok (.aload_n 0, 1) := by decide +kernel
theorem dX9_init_348 : decode cX9_init 348 = .ok (.bipush 10, 2) := by decide +kernel
theorem dX9_init_350 : decode cX9_init 350 = .ok (.newarray .int, 2) := by decide +kernel
theorem dX9_init_352 : decode cX9_init 352 = .ok (.putfield 138, 3) := by decide +kernel
theorem dX9_init_355 : decode cX9_init 355 = .ok (.aload_n 0, 1) := by decide +kernel
theorem dX9_init_356 : decode cX9_init 356 = .ok (.iconst 1, 1) := by decide +kernel
theorem dX9_init_357 : decode cX9_init 357 = .ok (.putfield 141, 3) := by decide +kernel
theorem dX9_init_360 : decode cX9_init 360 = .ok (.aload_n 0, 1) := by decide +kernel
theorem dX9_init_361 : decode cX9_init 361 = .ok (.getfield 7, 3) := by decide +kernel
theorem dX9_init_364 : decode cX9_init 364 = .ok (.iconst 0, 1) := by decide +kernel
theorem dX9_init_365 : decode cX9_init 365 = .ok (.bipush (-100), 2) := by decide +kernel
theorem dX9_init_367 : decode cX9_init 367 = .ok (.iastore, 1) := by decide +kernel
theorem dX9_init_368 : decode cX9_init 368 = .ok (.aload_n 0, 1) := by decide +kernel
theorem dX9_init_369 : decode cX9_init 369 = .ok (.getfield 13, 3) := by decide +kernel
theorem dX9_init_372 : decode cX9_init 372 = .ok (.iconst 0, 1) := by decide +kernel
theorem dX9_init_373 : decode cX9_init 373 = .ok (.bipush (-100), 2) := by decide +kernel
theorem dX9_init_375 : decode cX9_init 375 = .ok (.iastore, 1) := by decide +kernel
theorem dX9_init_376 : decode cX9_init 376 = .ok (.iconst 0, 1) := by decide +kernel
theorem dX9_init_377 : decode cX9_init 377 = .ok (.istore_n 1, 1) := by decide +kernel
theorem dX9_init_378 : decode cX9_init 378 = .ok (.iload_n 1, 1) := by decide +kernel
theorem dX9_init_379 : decode cX9_init 379 = .ok (.bipush 80, 2) := by decide +kernel
theorem dX9_init_381 : decode cX9_init 381 = .ok (.if_icmp .ge 16, 3) := by decide +kernel
theorem dX9_init_384 : decode cX9_init 384 = .ok (.aload_n 0, 1) := by decide +kernel
theorem dX9_init_385 : decode cX9_init 385 = .ok (.getfield 28, 3) := by decide +kernel
theorem dX9_init_388 : decode cX9_init 388 = .ok (.iload_n 1, 1) := by decide +kernel
theorem dX9_init_389 : decode cX9_init 389 = .ok (.iconst (-1), 1) := by decide +kernel
theorem dX9_init_390 : decode cX9_init 390 = .ok (.iastore, 1) := by decide +kernel
theorem dX9_init_391 : decode cX9_init 391 = .ok (.iinc 1 1, 3) := by decide +kernel
theorem dX9_init_394 : decode cX9_init 394 = .ok (.goto (-16), 3) := by decide +kernel
theorem dX9_init_397 : decode cX9_init 397 = .ok (.iconst 0, 1) := by decide +kernel
theorem dX9_init_398 : decode cX9_init 398 = .ok (.istore_n 1, 1) := by decide +kernel
theorem dX9_init_399 : decode cX9_init 399 = .ok (.iload_n 1, 1) := by decide +kernel
theorem dX9_init_400 : decode cX9_init 400 = .ok (.iconst 3, 1) := by decide +kernel
theorem dX9_init_401 : decode cX9_init 401 = .ok (.if_icmp .ge 41, 3) := by decide +kernel
theorem dX9_init_404 : decode cX9_init 404 = .ok (.aload_n 0, 1) := by decide +kernel
theorem dX9_init_405 : decode cX9_init 405 = .ok (.getfield 31, 3) := by decide +kernel
theorem dX9_init_408 : decode cX9_init 408 = .ok (.bipush 80, 2) := by decide +kernel
theorem dX9_init_410 : decode cX9_init 410 = .ok (.iload_n 1, 1) := by decide +kernel
theorem dX9_init_411 : decode cX9_init 411 = .ok (.imul, 1) := by decide +kernel
theorem dX9_init_412 : decode cX9_init 412 = .ok (.iconst 1, 1) := by decide +kernel
theorem dX9_init_413 : decode cX9_init 413 = .ok (.iastore, 1) := by decide +kernel
theorem dX9_init_414 : decode cX9_init 414 = .ok (.aload_n 0, 1) := by decide +kernel
theorem dX9_init_415 : decode cX9_init 415 = .ok (.getfield 46, 3) := by decide +kernel
theorem dX9_init_418 : decode cX9_init 418 = .ok (.bipush 80, 2) := by decide +kernel
theorem dX9_init_420 : decode cX9_init 420 = .ok (.iload_n 1, 1) := by decide +kernel
theorem dX9_init_421 : decode cX9_init 421 = .ok (.imul, 1) := by decide +kernel
theorem dX9_init_422 : decode cX9_init 422 = .ok (.bipush 15, 2) := by decide +kernel
theorem dX9_init_424 : decode cX9_init 424 = .ok (.iastore, 1) := by decide +kernel
theorem dX9_init_425 : decode cX9_init 425 = .ok (.aload_n 0, 1) := by decide +kernel
theorem dX9_init_426 : decode cX9_init 426 = .ok (.getfield 49, 3) := by decide +kernel
theorem dX9_init_429 : decode cX9_init 429 = .ok (.bipush 80, 2) := by decide +kernel
theorem dX9_init_431 : decode cX9_init 431 = .ok (.iload_n 1, 1) := by decide +kernel
theorem dX9_init_432 : decode cX9_init 432 = .ok (.imul, 1) := by decide +kernel
theorem dX9_init_433 : decode cX9_init 433 = .ok (.bipush 15, 2) := by decide +kernel
theorem dX9_init_435 : decode cX9_init 435 = .ok (.iastore, 1) := by decide +kernel
theorem dX9_init_436 : decode cX9_init 436 = .ok (.iinc 1 1, 3) := by decide +kernel
theorem dX9_init_439 : decode cX9_init 439 = .ok (.goto (-40), 3) := by decide +kernel
theorem dX9_init_442 : decode cX9_init 442 = .ok (.return_, 1) := by decide +kernel
theorem dX9_thrown_0 : decode cX9_thrown 0 = .ok (.aload_n 0, 1) := by decide +kernel
theorem dX9_thrown_1 : decode cX9_thrown 1 = .ok (.getfield 145, 3) := by decide +kernel
theorem dX9_thrown_4 : decode cX9_thrown 4 = .ok (.ireturn, 1) := by decide +kernel
theorem dX9_holds_0 : decode cX9_holds 0 = .ok (.aload_n 0, 1) := by decide +kernel
theorem dX9_holds_1 : decode cX9_holds 1 = .ok (.iload_n 1, 1) := by decide +kernel
theorem dX9_holds_2 : decode cX9_holds 2 = .ok (.putfield 145, 3) := by decide +kernel
theorem dX9_holds_5 : decode cX9_holds 5 = .ok (.iload_n 1, 1) := by decide +kernel
theorem dX9_holds_6 : decode cX9_holds 6 = .ok (.ifCond .le 7, 3) := by decide +kernel
theorem dX9_holds_9 : decode cX9_holds 9 = .ok (.iconst 1, 1) := by decide +kernel
theorem dX9_holds_10 : decode cX9_holds 10 = .ok (.goto 4, 3) := by decide +kernel
theorem dX9_holds_13 : decode cX9_holds 13 = .ok (.iconst 0, 1) := by decide +kernel
theorem dX9_holds_14 : decode cX9_holds 14 = .ok (.ireturn, 1) := by decide +kernel
theorem dX9_in_0 : decode cX9_in 0 = .ok (.iload_n 1, 1) := by decide +kernel
theorem dX9_in_1 : decode cX9_in 1 = .ok (.iload_n 2, 1) := by decide +kernel
theorem dX9_in_2 : decode cX9_in 2 = .ok (.if_icmp .lt 12, 3) := by decide +kernel
theorem dX9_in_5 : decode cX9_in 5 = .ok (.iload_n 1, 1) := by decide +kernel
theorem dX9_in_6 : decode cX9_in 6 = .ok (.iload_n 3, 1) := by decide +kernel
theorem dX9_in_7 : decode cX9_in 7 = .ok (.if_icmp .gt 7, 3) := by decide +kernel
theorem dX9_in_10 : decode cX9_in 10 = .ok (.iconst 1, 1) := by decide +kernel
theorem dX9_in_11 : decode cX9_in 11 = .ok (.goto 4, 3) := by decide +kernel
theorem dX9_in_14 : decode cX9_in 14 = .ok (.iconst 0, 1) := by decide +kernel
theorem dX9_in_15 : decode cX9_in 15 = .ok (.ireturn, 1) := by decide +kernel
theorem dX9_isSession_0 : decode cX9_isSession 0 = .ok (.aload_n 0, 1) := by decide +kernel
theorem dX9_isSession_1 : decode cX9_isSession 1 = .ok (.iload_n 1, 1) := by decide +kernel
theorem dX9_isSession_2 : decode cX9_isSession 2 = .ok (.iconst 0, 1) := by decide +kernel
theorem dX9_isSession_3 : decode cX9_isSession 3 = .ok (.aload_n 0, 1) := by decide +kernel
theorem dX9_isSession_4 : decode cX9_isSession 4 = .ok (.getfield 148, 3) := by decide +kernel
theorem dX9_isSession_7 : decode cX9_isSession 7 = .ok (.iconst 1, 1) := by decide +kernel
theorem dX9_isSession_8 : decode cX9_isSession 8 = .ok (.isub, 1) := by decide +kernel
theorem dX9_isSession_9 : decode cX9_isSession 9 = .ok (.invokevirtual 151, 3) := by decide +kernel
theorem dX9_isSession_12 : decode cX9_isSession 12 = .ok (.ireturn, 1) := by decide +kernel
theorem dX9_isThere_0 : decode cX9_isThere 0 = .ok (.aload_n 0, 1) := by decide +kernel
theorem dX9_isThere_1 : decode cX9_isThere 1 = .ok (.iload_n 2, 1) := by decide +kernel
theorem dX9_isThere_2 : decode cX9_isThere 2 = .ok (.iconst 0, 1) := by decide +kernel
theorem dX9_isThere_3 : decode cX9_isThere 3 = .ok (.aload_n 0, 1) := by decide +kernel
theorem dX9_isThere_4 : decode cX9_isThere 4 = .ok (.getfield 141, 3) := by decide +kernel
theorem dX9_isThere_7 : decode cX9_isThere 7 = .ok (.iconst 1, 1) := by decide +kernel
theorem dX9_isThere_8 : decode cX9_isThere 8 = .ok (.isub, 1) := by decide +kernel
theorem dX9_isThere_9 : decode cX9_isThere 9 = .ok (.invokevirtual 151, 3) := by decide +kernel
theorem dX9_isThere_12 : decode cX9_isThere 12 = .ok (.ifCond .eq 22, 3) := by decide +kernel
theorem dX9_isThere_15 : decode cX9_isThere 15 = .ok (.aload_n 0, 1) := by decide +kernel
theorem dX9_isThere_16 : decode cX9_isThere 16 = .ok (.getfield 31, 3) := by decide +kernel
theorem dX9_isThere_19 : decode cX9_isThere 19 = .ok (.bipush 80, 2) := by decide +kernel
theorem dX9_isThere_21 : decode cX9_isThere 21 = .ok (.iload_n 1, 1) := by decide +kernel
theorem dX9_isThere_22 : decode cX9_isThere 22 = .ok (.imul, 1) := by decide +kernel
theorem dX9_isThere_23 : decode cX9_isThere 23 = .ok (.iload_n 2, 1) := by decide +kernel
theorem dX9_isThere_24 : decode cX9_isThere 24 = .ok (.iadd, 1) := by decide +kernel
theorem dX9_isThere_25 : decode cX9_isThere 25 = .ok (.iaload, 1) := by decide +kernel
theorem dX9_isThere_26 : decode cX9_isThere 26 = .ok (.iconst 1, 1) := by decide +kernel
theorem dX9_isThere_27 : decode cX9_isThere 27 = .ok (.if_icmp .ne 7, 3) := by decide +kernel
theorem dX9_isThere_30 : decode cX9_isThere 30 = .ok (.iconst 1, 1) := by decide +kernel
theorem dX9_isThere_31 : decode cX9_isThere 31 = .ok (.goto 4, 3) := by decide +kernel
theorem dX9_isThere_34 : decode cX9_isThere 34 = .ok (.iconst 0, 1) := by decide +kernel
theorem dX9_isThere_35 : decode cX9_isThere 35 = .ok (.ireturn, 1) := by decide +kernel
theorem dX9_ended_0 : decode cX9_ended 0 = .ok (.iconst 0, 1) := by decide +kernel
theorem dX9_ended_1 : decode cX9_ended 1 = .ok (.istore_n 2, 1) := by decide +kernel
theorem dX9_ended_2 : decode cX9_ended 2 = .ok (.iload_n 2, 1) := by decide +kernel
theorem dX9_ended_3 : decode cX9_ended 3 = .ok (.bipush 80, 2) := by decide +kernel
theorem dX9_ended_5 : decode cX9_ended 5 = .ok (.if_icmp .ge 31, 3) := by decide +kernel
theorem dX9_ended_8 : decode cX9_ended 8 = .ok (.aload_n 0, 1) := by decide +kernel
theorem dX9_ended_9 : decode cX9_ended 9 = .ok (.getfield 92, 3) := by decide +kernel
theorem dX9_ended_12 : decode cX9_ended 12 = .ok (.iload_n 1, 1) := by decide +kernel
theorem dX9_ended_13 : decode cX9_ended 13 = .ok (.iaload, 1) := by decide +kernel
theorem dX9_ended_14 : decode cX9_ended 14 = .ok (.iconst 1, 1) := by decide +kernel
theorem dX9_ended_15 : decode cX9_ended 15 = .ok (.if_icmp .ne 21, 3) := by decide +kernel
theorem dX9_ended_18 : decode cX9_ended 18 = .ok (.aload_n 0, 1) := by decide +kernel
theorem dX9_ended_19 : decode cX9_ended 19 = .ok (.getfield 129, 3) := by decide +kernel
theorem dX9_ended_22 : decode cX9_ended 22 = .ok (.bipush 80, 2) := by decide +kernel
theorem dX9_ended_24 : decode cX9_ended 24 = .ok (.iload_n 1, 1) := by decide +kernel
theorem dX9_ended_25 : decode cX9_ended 25 = .ok (.imul, 1) := by decide +kernel
theorem dX9_ended_26 : decode cX9_ended 26 = .ok (.iload_n 2, 1) := by decide +kernel
theorem dX9_ended_27 : decode cX9_ended 27 = .ok (.iadd, 1) := by decide +kernel
theorem dX9_ended_28 : decode cX9_ended 28 = .ok (.iconst 0, 1) := by decide +kernel
theorem dX9_ended_29 : decode cX9_ended 29 = .ok (.iastore, 1) := by decide +kernel
theorem dX9_ended_30 : decode cX9_ended 30 = .ok (.iinc 2 1, 3) := by decide +kernel
theorem dX9_ended_33 : decode cX9_ended 33 = .ok (.goto (-31), 3) := by decide +kernel
theorem dX9_ended_36 : decode cX9_ended 36 = .ok (.aload_n 0, 1) := by decide +kernel
theorem dX9_ended_37 : decode cX9_ended 37 = .ok (.getfield 92, 3) := by decide +kernel
theorem dX9_ended_40 : decode cX9_ended 40 = .ok (.iload_n 1, 1) := by decide +kernel
theorem dX9_ended_41 : decode cX9_ended 41 = .ok (.iaload, 1) := by decide +kernel
theorem dX9_ended_42 : decode cX9_ended 42 = .ok (.iconst 1, 1) := by decide +kernel
theorem dX9_ended_43 : decode cX9_ended 43 = .ok (.if_icmp .ne 7, 3) := by decide +kernel
theorem dX9_ended_46 : decode cX9_ended 46 = .ok (.iconst 1, 1) := by decide +kernel
theorem dX9_ended_47 : decode cX9_ended 47 = .ok (.goto 4, 3) := by decide +kernel
theorem dX9_ended_50 : decode cX9_ended 50 = .ok (.iconst 0, 1) := by decide +kernel
theorem dX9_ended_51 : decode cX9_ended 51 = .ok (.ireturn, 1) := by decide +kernel
theorem dX9_does_0 : decode cX9_does 0 = .ok (.aload_n 0, 1) := by decide +kernel
theorem dX9_does_1 : decode cX9_does 1 = .ok (.getfield 89, 3) := by decide +kernel
theorem dX9_does_4 : decode cX9_does 4 = .ok (.iload_n 1, 1) := by decide +kernel
theorem dX9_does_5 : decode cX9_does 5 = .ok (.aload_n 0, 1) := by decide +kernel
theorem dX9_does_6 : decode cX9_does 6 = .ok (.getfield 155, 3) := by decide +kernel
theorem dX9_does_9 : decode cX9_does 9 = .ok (.iastore, 1) := by decide +kernel
theorem dX9_does_10 : decode cX9_does 10 = .ok (.return_, 1) := by decide +kernel
theorem dX9_copy_0 : decode cX9_copy 0 = .ok (.iconst 0, 1) := by decide +kernel
theorem dX9_copy_1 : decode cX9_copy 1 = .ok (.istore_n 3, 1) := by decide +kernel
theorem dX9_copy_2 : decode cX9_copy 2 = .ok (.iload_n 3, 1) := by decide +kernel
theorem dX9_copy_3 : decode cX9_copy 3 = .ok (.bipush 80, 2) := by decide +kernel
theorem dX9_copy_5 : decode cX9_copy 5 = .ok (.if_icmp .ge 123, 3) := by decide +kernel
theorem dX9_copy_8 : decode cX9_copy 8 = .ok (.bipush 80, 2) := by decide +kernel
theorem dX9_copy_10 : decode cX9_copy 10 = .ok (.iload_n 1, 1) := by decide +kernel
theorem dX9_copy_11 : decode cX9_copy 11 = .ok (.imul, 1) := by decide +kernel
theorem dX9_copy_12 : decode cX9_copy 12 = .ok (.iload_n 3, 1) := by decide +kernel
theorem dX9_copy_13 : decode cX9_copy 13 = .ok (.iadd, 1) := by decide +kernel
theorem dX9_copy_14 : decode cX9_copy 14 = .ok (.istore 4, 2) := by decide +kernel
theorem dX9_copy_16 : decode cX9_copy 16 = .ok (.bipush 80, 2) := by decide +kernel
theorem dX9_copy_18 : decode cX9_copy 18 = .ok (.iload_n 2, 1) := by decide +kernel
theorem dX9_copy_19 : decode cX9_copy 19 = .ok (.imul, 1) := by decide +kernel
theorem dX9_copy_20 : decode cX9_copy 20 = .ok (.iload_n 3, 1) := by decide +kernel
theorem dX9_copy_21 : decode cX9_copy 21 = .ok (.iadd, 1) := by decide +kernel
theorem dX9_copy_22 : decode cX9_copy 22 = .ok (.istore 5, 2) := by decide +kernel
theorem dX9_copy_24 : decode cX9_copy 24 = .ok (.aload_n 0, 1) := by decide +kernel
theorem dX9_copy_25 : decode cX9_copy 25 = .ok (.getfield 31, 3) := by decide +kernel
theorem dX9_copy_28 : decode cX9_copy 28 = .ok (.iload 5, 2) := by decide +kernel
theorem dX9_copy_30 : decode cX9_copy 30 = .ok (.aload_n 0, 1) := by decide +kernel
theorem dX9_copy_31 : decode cX9_copy 31 = .ok (.getfield 31, 3) := by decide +kernel
theorem dX9_copy_34 : decode cX9_copy 34 = .ok (.iload 4, 2) := by decide +kernel
theorem dX9_copy_36 : decode cX9_copy 36 = .ok (.iaload, 1) := by decide +kernel
theorem dX9_copy_37 : decode cX9_copy 37 = .ok (.iastore, 1) := by decide +kernel
theorem dX9_copy_38 : decode cX9_copy 38 = .ok (.aload_n 0, 1) := by decide +kernel
theorem dX9_copy_39 : decode cX9_copy 39 = .ok (.getfield 34, 3) := by decide +kernel
theorem dX9_copy_42 : decode cX9_copy 42 = .ok (.iload 5, 2) := by decide +kernel
theorem dX9_copy_44 : decode cX9_copy 44 = .ok (.aload_n 0, 1) := by decide +kernel
theorem dX9_copy_45 : decode cX9_copy 45 = .ok (.getfield 34, 3) := by decide +kernel
theorem dX9_copy_48 : decode cX9_copy 48 = .ok (.iload 4, 2) := by decide +kernel
theorem dX9_copy_50 : decode cX9_copy 50 = .ok (.iaload, 1) := by decide +kernel
theorem dX9_copy_51 : decode cX9_copy 51 = .ok (.iastore, 1) := by decide +kernel
theorem dX9_copy_52 : decode cX9_copy 52 = .ok (.aload_n 0, 1) := by decide +kernel
theorem dX9_copy_53 : decode cX9_copy 53 = .ok (.getfield 37, 3) := by decide +kernel
theorem dX9_copy_56 : decode cX9_copy 56 = .ok (.iload 5, 2) := by decide +kernel
theorem dX9_copy_58 : decode cX9_copy 58 = .ok (.aload_n 0, 1) := by decide +kernel
theorem dX9_copy_59 : decode cX9_copy 59 = .ok (.getfield 37, 3) := by decide +kernel
theorem dX9_copy_62 : decode cX9_copy 62 = .ok (.iload 4, 2) := by decide +kernel
theorem dX9_copy_64 : decode cX9_copy 64 = .ok (.iaload, 1) := by decide +kernel
theorem dX9_copy_65 : decode cX9_copy 65 = .ok (.iastore, 1) := by decide +kernel
theorem dX9_copy_66 : decode cX9_copy 66 = .ok (.aload_n 0, 1) := by decide +kernel
theorem dX9_copy_67 : decode cX9_copy 67 = .ok (.getfield 40, 3) := by decide +kernel
theorem dX9_copy_70 : decode cX9_copy 70 = .ok (.iload 5, 2) := by decide +kernel
theorem dX9_copy_72 : decode cX9_copy 72 = .ok (.aload_n 0, 1) := by decide +kernel
theorem dX9_copy_73 : decode cX9_copy 73 = .ok (.getfield 40, 3) := by decide +kernel
theorem dX9_copy_76 : decode cX9_copy 76 = .ok (.iload 4, 2) := by decide +kernel
theorem dX9_copy_78 : decode cX9_copy 78 = .ok (.iaload, 1) := by decide +kernel
theorem dX9_copy_79 : decode cX9_copy 79 = .ok (.iastore, 1) := by decide +kernel
theorem dX9_copy_80 : decode cX9_copy 80 = .ok (.aload_n 0, 1) := by decide +kernel
theorem dX9_copy_81 : decode cX9_copy 81 = .ok (.getfield 43, 3) := by decide +kernel
theorem dX9_copy_84 : decode cX9_copy 84 = .ok (.iload 5, 2) := by decide +kernel
theorem dX9_copy_86 : decode cX9_copy 86 = .ok (.aload_n 0, 1) := by decide +kernel
theorem dX9_copy_87 : decode cX9_copy 87 = .ok (.getfield 43, 3) := by decide +kernel
theorem dX9_copy_90 : decode cX9_copy 90 = .ok (.iload 4, 2) := by decide +kernel
theorem dX9_copy_92 : decode cX9_copy 92 = .ok (.iaload, 1) := by decide +kernel
theorem dX9_copy_93 : decode cX9_copy 93 = .ok (.iastore, 1) := by decide +kernel
theorem dX9_copy_94 : decode cX9_copy 94 = .ok (.aload_n 0, 1) := by decide +kernel
theorem dX9_copy_95 : decode cX9_copy 95 = .ok (.getfield 46, 3) := by decide +kernel
theorem dX9_copy_98 : decode cX9_copy 98 = .ok (.iload 5, 2) := by decide +kernel
theorem dX9_copy_100 : decode cX9_copy 100 = .ok (.aload_n 0, 1) := by decide +kernel
theorem dX9_copy_101 : decode cX9_copy 101 = .ok (.getfield 46, 3) := by decide +kernel
theorem dX9_copy_104 : decode cX9_copy 104 = .ok (.iload 4, 2) := by decide +kernel
theorem dX9_copy_106 : decode cX9_copy 106 = .ok (.iaload, 1) := by decide +kernel
theorem dX9_copy_107 : decode cX9_copy 107 = .ok (.iastore, 1) := by decide +kernel
theorem dX9_copy_108 : decode cX9_copy 108 = .ok (.aload_n 0, 1) := by decide +kernel
theorem dX9_copy_109 : decode cX9_copy 109 = .ok (.getfield 49, 3) := by decide +kernel
theorem dX9_copy_112 : decode cX9_copy 112 = .ok (.iload 5, 2) := by decide +kernel
theorem dX9_copy_114 : decode cX9_copy 114 = .ok (.aload_n 0, 1) := by decide +kernel
theorem dX9_copy_115 : decode cX9_copy 115 = .ok (.getfield 49, 3) := by decide +kernel
theorem dX9_copy_118 : decode cX9_copy 118 = .ok (.iload 4, 2) := by decide +kernel
theorem dX9_copy_120 : decode cX9_copy 120 = .ok (.iaload, 1) := by decide +kernel
theorem dX9_copy_121 : decode cX9_copy 121 = .ok (.iastore, 1) := by decide +kernel
theorem dX9_copy_122 : decode cX9_copy 122 = .ok (.iinc 3 1, 3) := by decide +kernel
theorem dX9_copy_125 : decode cX9_copy 125 = .ok (.goto (-123), 3) := by decide +kernel
theorem dX9_copy_128 : decode cX9_copy 128 = .ok (.return_, 1) := by decide +kernel
theorem dX9_apply_0 : decode cX9_apply 0 = .ok (.bipush 80, 2) := by decide +kernel
theorem dX9_apply_2 : decode cX9_apply 2 = .ok (.iload_n 1, 1) := by decide +kernel
theorem dX9_apply_3 : decode cX9_apply 3 = .ok (.imul, 1) := by decide +kernel
theorem dX9_apply_4 : decode cX9_apply 4 = .ok (.aload_n 0, 1) := by decide +kernel
theorem dX9_apply_5 : decode cX9_apply 5 = .ok (.getfield 65, 3) := by decide +kernel
theorem dX9_apply_8 : decode cX9_apply 8 = .ok (.iload_n 2, 1) := by decide +kernel
theorem dX9_apply_9 : decode cX9_apply 9 = .ok (.iaload, 1) := by decide +kernel
theorem dX9_apply_10 : decode cX9_apply 10 = .ok (.iadd, 1) := by decide +kernel
theorem dX9_apply_11 : decode cX9_apply 11 = .ok (.istore_n 3, 1) := by decide +kernel
theorem dX9_apply_12 : decode cX9_apply 12 = .ok (.aload_n 0, 1) := by decide +kernel
theorem dX9_apply_13 : decode cX9_apply 13 = .ok (.getfield 65, 3) := by decide +kernel
theorem dX9_apply_16 : decode cX9_apply 16 = .ok (.iload_n 2, 1) := by decide +kernel
theorem dX9_apply_17 : decode cX9_apply 17 = .ok (.iaload, 1) := by decide +kernel
theorem dX9_apply_18 : decode cX9_apply 18 = .ok (.ifCond .eq 13, 3) := by decide +kernel
theorem dX9_apply_21 : decode cX9_apply 21 = .ok (.aload_n 0, 1) := by decide +kernel
theorem dX9_apply_22 : decode cX9_apply 22 = .ok (.getfield 62, 3) := by decide +kernel
theorem dX9_apply_25 : decode cX9_apply 25 = .ok (.iload_n 2, 1) := by decide +kernel
theorem dX9_apply_26 : decode cX9_apply 26 = .ok (.iaload, 1) := by decide +kernel
theorem dX9_apply_27 : decode cX9_apply 27 = .ok (.iconst 3, 1) := by decide +kernel
theorem dX9_apply_28 : decode cX9_apply 28 = .ok (.if_icmp .le 7, 3) := by decide +kernel
theorem dX9_apply_31 : decode cX9_apply 31 = .ok (.iconst (-1), 1) := by decide +kernel
theorem dX9_apply_32 : decode cX9_apply 32 = .ok (.goto 19, 3) := by decide +kernel
theorem dX9_apply_35 : decode cX9_apply 35 = .ok (.bipush 80, 2) := by decide +kernel
theorem dX9_apply_37 : decode cX9_apply 37 = .ok (.iload_n 1, 1) := by decide +kernel
theorem dX9_apply_38 : decode cX9_apply 38 = .ok (.imul, 1) := by decide +kernel
theorem dX9_apply_39 : decode cX9_apply 39 = .ok (.aload_n 0, 1) := by decide +kernel
theorem dX9_apply_40 : decode cX9_apply 40 = .ok (.getfield 7, 3) := by decide +kernel
theorem dX9_apply_43 : decode cX9_apply 43 = .ok (.aload_n 0, 1) := by decide +kernel
theorem dX9_apply_44 : decode cX9_apply 44 = .ok (.getfield 65, 3) := by decide +kernel
theorem dX9_apply_47 : decode cX9_apply 47 = .ok (.iload_n 2, 1) := by decide +kernel
theorem dX9_apply_48 : decode cX9_apply 48 = .ok (.iaload, 1) := by decide +kernel
theorem dX9_apply_49 : decode cX9_apply 49 = .ok (.iaload, 1) := by decide +kernel
theorem dX9_apply_50 : decode cX9_apply 50 = .ok (.iadd, 1) := by decide +kernel
theorem dX9_apply_51 : decode cX9_apply 51 = .ok (.istore 4, 2) := by decide +kernel
theorem dX9_apply_53 : decode cX9_apply 53 = .ok (.aload_n 0, 1) := by decide +kernel
theorem dX9_apply_54 : decode cX9_apply 54 = .ok (.getfield 62, 3) := by decide +kernel
theorem dX9_apply_57 : decode cX9_apply 57 = .ok (.iload_n 2, 1) := by decide +kernel
theorem dX9_apply_58 : decode cX9_apply 58 = .ok (.iaload, 1) := by decide +kernel
theorem dX9_apply_59 : decode cX9_apply 59 = .ok (.tableswitch 192 0 3 #[29, 109, 134, 155], 29) := by decide +kernel
theorem dX9_apply_88 : decode cX9_apply 88 = .ok (.aload_n 0, 1) := by decide +kernel
theorem dX9_apply_89 : decode cX9_apply 89 = .ok (.getfield 31, 3) := by decide +kernel
theorem dX9_apply_92 : decode cX9_apply 92 = .ok (.iload_n 3, 1) := by decide +kernel
theorem dX9_apply_93 : decode cX9_apply 93 = .ok (.iconst 1, 1) := by decide +kernel
theorem dX9_apply_94 : decode cX9_apply 94 = .ok (.iastore, 1) := by decide +kernel
theorem dX9_apply_95 : decode cX9_apply 95 = .ok (.aload_n 0, 1) := by decide +kernel
theorem dX9_apply_96 : decode cX9_apply 96 = .ok (.getfield 34, 3) := by decide +kernel
theorem dX9_apply_99 : decode cX9_apply 99 = .ok (.iload_n 3, 1) := by decide +kernel
theorem dX9_apply_100 : decode cX9_apply 100 = .ok (.aload_n 0, 1) := by decide +kernel
theorem dX9_apply_101 : decode cX9_apply 101 = .ok (.getfield 68, 3) := by decide +kernel
theorem dX9_apply_104 : decode cX9_apply 104 = .ok (.iload_n 2, 1) := by decide +kernel
theorem dX9_apply_105 : decode cX9_apply 105 = .ok (.iaload, 1) := by decide +kernel
theorem dX9_apply_106 : decode cX9_apply 106 = .ok (.iastore, 1) := by decide +kernel
theorem dX9_apply_107 : decode cX9_apply 107 = .ok (.aload_n 0, 1) := by decide +kernel
theorem dX9_apply_108 : decode cX9_apply 108 = .ok (.getfield 37, 3) := by decide +kernel
theorem dX9_apply_111 : decode cX9_apply 111 = .ok (.iload_n 3, 1) := by decide +kernel
theorem dX9_apply_112 : decode cX9_apply 112 = .ok (.iconst 0, 1) := by decide +kernel
theorem dX9_apply_113 : decode cX9_apply 113 = .ok (.iastore, 1) := by decide +kernel
theorem dX9_apply_114 : decode cX9_apply 114 = .ok (.aload_n 0, 1) := by decide +kernel
theorem dX9_apply_115 : decode cX9_apply 115 = .ok (.getfield 40, 3) := by decide +kernel
theorem dX9_apply_118 : decode cX9_apply 118 = .ok (.iload_n 3, 1) := by decide +kernel
theorem dX9_apply_119 : decode cX9_apply 119 = .ok (.iconst 0, 1) := by decide +kernel
theorem dX9_apply_120 : decode cX9_apply 120 = .ok (.iastore, 1) := by decide +kernel
theorem dX9_apply_121 : decode cX9_apply 121 = .ok (.aload_n 0, 1) := by decide +kernel
theorem dX9_apply_122 : decode cX9_apply 122 = .ok (.getfield 43, 3) := by decide +kernel
theorem dX9_apply_125 : decode cX9_apply 125 = .ok (.iload_n 3, 1) := by decide +kernel
theorem dX9_apply_126 : decode cX9_apply 126 = .ok (.iconst 0, 1) := by decide +kernel
theorem dX9_apply_127 : decode cX9_apply 127 = .ok (.iastore, 1) := by decide +kernel
theorem dX9_apply_128 : decode cX9_apply 128 = .ok (.aload_n 0, 1) := by decide +kernel
theorem dX9_apply_129 : decode cX9_apply 129 = .ok (.getfield 46, 3) := by decide +kernel
theorem dX9_apply_132 : decode cX9_apply 132 = .ok (.iload_n 3, 1) := by decide +kernel
theorem dX9_apply_133 : decode cX9_apply 133 = .ok (.aload_n 0, 1) := by decide +kernel
theorem dX9_apply_134 : decode cX9_apply 134 = .ok (.getfield 46, 3) := by decide +kernel
theorem dX9_apply_137 : decode cX9_apply 137 = .ok (.iload 4, 2) := by decide +kernel
theorem dX9_apply_139 : decode cX9_apply 139 = .ok (.iaload, 1) := by decide +kernel
theorem dX9_apply_140 : decode cX9_apply 140 = .ok (.iastore, 1) := by decide +kernel
theorem dX9_apply_141 : decode cX9_apply 141 = .ok (.aload_n 0, 1) := by decide +kernel
theorem dX9_apply_142 : decode cX9_apply 142 = .ok (.getfield 49, 3) := by decide +kernel
theorem dX9_apply_145 : decode cX9_apply 145 = .ok (.iload_n 3, 1) := by decide +kernel
theorem dX9_apply_146 : decode cX9_apply 146 = .ok (.aload_n 0, 1) := by decide +kernel
theorem dX9_apply_147 : decode cX9_apply 147 = .ok (.getfield 49, 3) := by decide +kernel
theorem dX9_apply_150 : decode cX9_apply 150 = .ok (.iload 4, 2) := by decide +kernel
theorem dX9_apply_152 : decode cX9_apply 152 = .ok (.iaload, 1) := by decide +kernel
theorem dX9_apply_153 : decode cX9_apply 153 = .ok (.iastore, 1) := by decide +kernel
theorem dX9_apply_154 : decode cX9_apply 154 = .ok (.aload_n 0, 1) := by decide +kernel
theorem dX9_apply_155 : decode cX9_apply 155 = .ok (.getfield 40, 3) := by decide +kernel
theorem dX9_apply_158 : decode cX9_apply 158 = .ok (.iload 4, 2) := by decide +kernel
theorem dX9_apply_160 : decode cX9_apply 160 = .ok (.dup2, 1) := by decide +kernel
theorem dX9_apply_161 : decode cX9_apply 161 = .ok (.iaload, 1) := by decide +kernel
theorem dX9_apply_162 : decode cX9_apply 162 = .ok (.iconst 1, 1) := by decide +kernel
theorem dX9_apply_163 : decode cX9_apply 163 = .ok (.iadd, 1) := by decide +kernel
theorem dX9_apply_164 : decode cX9_apply 164 = .ok (.iastore, 1) := by decide +kernel
theorem dX9_apply_165 : decode cX9_apply 165 = .ok (.goto 86, 3) := by decide +kernel
theorem dX9_apply_168 : decode cX9_apply 168 = .ok (.aload_n 0, 1) := by decide +kernel
theorem dX9_apply_169 : decode cX9_apply 169 = .ok (.getfield 34, 3) := by decide +kernel
theorem dX9_apply_172 : decode cX9_apply 172 = .ok (.iload_n 3, 1) := by decide +kernel
theorem dX9_apply_173 : decode cX9_apply 173 = .ok (.aload_n 0, 1) := by decide +kernel
theorem dX9_apply_174 : decode cX9_apply 174 = .ok (.getfield 68, 3) := by decide +kernel
theorem dX9_apply_177 : decode cX9_apply 177 = .ok (.iload_n 2, 1) := by decide +kernel
theorem dX9_apply_178 : decode cX9_apply 178 = .ok (.iaload, 1) := by decide +kernel
theorem dX9_apply_179 : decode cX9_apply 179 = .ok (.iastore, 1) := by decide +kernel
theorem dX9_apply_180 : decode cX9_apply 180 = .ok (.aload_n 0, 1) := by decide +kernel
theorem dX9_apply_181 : decode cX9_apply 181 = .ok (.getfield 37, 3) := by decide +kernel
theorem dX9_apply_184 : decode cX9_apply 184 = .ok (.iload_n 3, 1) := by decide +kernel
theorem dX9_apply_185 : decode cX9_apply 185 = .ok (.dup2, 1) := by decide +kernel
theorem dX9_apply_186 : decode cX9_apply 186 = .ok (.iaload, 1) := by decide +kernel
theorem dX9_apply_187 : decode cX9_apply 187 = .ok (.iconst 1, 1) := by decide +kernel
theorem dX9_apply_188 : decode cX9_apply 188 = .ok (.iadd, 1) := by decide +kernel
theorem dX9_apply_189 : decode cX9_apply 189 = .ok (.iastore, 1) := by decide +kernel
theorem dX9_apply_190 : decode cX9_apply 190 = .ok (.goto 61, 3) := by decide +kernel
theorem dX9_apply_193 : decode cX9_apply 193 = .ok (.aload_n 0, 1) := by decide +kernel
theorem dX9_apply_194 : decode cX9_apply 194 = .ok (.getfield 31, 3) := by decide +kernel
theorem dX9_apply_197 : decode cX9_apply 197 = .ok (.iload_n 3, 1) := by decide +kernel
theorem dX9_apply_198 : decode cX9_apply 198 = .ok (.iconst 0, 1) := by decide +kernel
theorem dX9_apply_199 : decode cX9_apply 199 = .ok (.iastore, 1) := by decide +kernel
theorem dX9_apply_200 : decode cX9_apply 200 = .ok (.aload_n 0, 1) := by decide +kernel
theorem dX9_apply_201 : decode cX9_apply 201 = .ok (.getfield 40, 3) := by decide +kernel
theorem dX9_apply_204 : decode cX9_apply 204 = .ok (.iload 4, 2) := by decide +kernel
theorem dX9_apply_206 : decode cX9_apply 206 = .ok (.dup2, 1) := by decide +kernel
theorem dX9_apply_207 : decode cX9_apply 207 = .ok (.iaload, 1) := by decide +kernel
theorem dX9_apply_208 : decode cX9_apply 208 = .ok (.iconst 1, 1) := by decide +kernel
theorem dX9_apply_209 : decode cX9_apply 209 = .ok (.iadd, 1) := by decide +kernel
theorem dX9_apply_210 : decode cX9_apply 210 = .ok (.iastore, 1) := by decide +kernel
theorem dX9_apply_211 : decode cX9_apply 211 = .ok (.goto 40, 3) := by decide +kernel
theorem dX9_apply_214 : decode cX9_apply 214 = .ok (.aload_n 0, 1) := by decide +kernel
theorem dX9_apply_215 : decode cX9_apply 215 = .ok (.getfield 46, 3) := by decide +kernel
theorem dX9_apply_218 : decode cX9_apply 218 = .ok (.iload_n 3, 1) := by decide +kernel
theorem dX9_apply_219 : decode cX9_apply 219 = .ok (.aload_n 0, 1) := by decide +kernel
theorem dX9_apply_220 : decode cX9_apply 220 = .ok (.getfield 68, 3) := by decide +kernel
theorem dX9_apply_223 : decode cX9_apply 223 = .ok (.iload_n 2, 1) := by decide +kernel
theorem dX9_apply_224 : decode cX9_apply 224 = .ok (.iaload, 1) := by decide +kernel
theorem dX9_apply_225 : decode cX9_apply 225 = .ok (.iastore, 1) := by decide +kernel
theorem dX9_apply_226 : decode cX9_apply 226 = .ok (.aload_n 0, 1) := by decide +kernel
theorem dX9_apply_227 : decode cX9_apply 227 = .ok (.getfield 49, 3) := by decide +kernel
theorem dX9_apply_230 : decode cX9_apply 230 = .ok (.iload_n 3, 1) := by decide +kernel
theorem dX9_apply_231 : decode cX9_apply 231 = .ok (.aload_n 0, 1) := by decide +kernel
theorem dX9_apply_232 : decode cX9_apply 232 = .ok (.getfield 71, 3) := by decide +kernel
theorem dX9_apply_235 : decode cX9_apply 235 = .ok (.iload_n 2, 1) := by decide +kernel
theorem dX9_apply_236 : decode cX9_apply 236 = .ok (.iaload, 1) := by decide +kernel
theorem dX9_apply_237 : decode cX9_apply 237 = .ok (.iastore, 1) := by decide +kernel
theorem dX9_apply_238 : decode cX9_apply 238 = .ok (.aload_n 0, 1) := by decide +kernel
theorem dX9_apply_239 : decode cX9_apply 239 = .ok (.getfield 43, 3) := by decide +kernel
theorem dX9_apply_242 : decode cX9_apply 242 = .ok (.iload_n 3, 1) := by decide +kernel
theorem dX9_apply_243 : decode cX9_apply 243 = .ok (.dup2, 1) := by decide +kernel
theorem dX9_apply_244 : decode cX9_apply 244 = .ok (.iaload, 1) := by decide +kernel
theorem dX9_apply_245 : decode cX9_apply 245 = .ok (.iconst 1, 1) := by decide +kernel
theorem dX9_apply_246 : decode cX9_apply 246 = .ok (.iadd, 1) := by decide +kernel
theorem dX9_apply_247 : decode cX9_apply 247 = .ok (.iastore, 1) := by decide +kernel
theorem dX9_apply_248 : decode cX9_apply 248 = .ok (.goto 3, 3) := by decide +kernel
theorem dX9_apply_251 : decode cX9_apply 251 = .ok (.return_, 1) := by decide +kernel
theorem dX9_log_0 : decode cX9_log 0 = .ok (.aload_n 0, 1) := by decide +kernel
theorem dX9_log_1 : decode cX9_log 1 = .ok (.getfield 59, 3) := by decide +kernel
theorem dX9_log_4 : decode cX9_log 4 = .ok (.aload_n 0, 1) := by decide +kernel
theorem dX9_log_5 : decode cX9_log 5 = .ok (.getfield 158, 3) := by decide +kernel
theorem dX9_log_8 : decode cX9_log 8 = .ok (.aload_n 0, 1) := by decide +kernel
theorem dX9_log_9 : decode cX9_log 9 = .ok (.getfield 161, 3) := by decide +kernel
theorem dX9_log_12 : decode cX9_log 12 = .ok (.iastore, 1) := by decide +kernel
theorem dX9_log_13 : decode cX9_log 13 = .ok (.aload_n 0, 1) := by decide +kernel
theorem dX9_log_14 : decode cX9_log 14 = .ok (.getfield 62, 3) := by decide +kernel
theorem dX9_log_17 : decode cX9_log 17 = .ok (.aload_n 0, 1) := by decide +kernel
theorem dX9_log_18 : decode cX9_log 18 = .ok (.getfield 158, 3) := by decide +kernel
theorem dX9_log_21 : decode cX9_log 21 = .ok (.iload_n 1, 1) := by decide +kernel
theorem dX9_log_22 : decode cX9_log 22 = .ok (.iastore, 1) := by decide +kernel
theorem dX9_log_23 : decode cX9_log 23 = .ok (.aload_n 0, 1) := by decide +kernel
theorem dX9_log_24 : decode cX9_log 24 = .ok (.getfield 65, 3) := by decide +kernel
theorem dX9_log_27 : decode cX9_log 27 = .ok (.aload_n 0, 1) := by decide +kernel
theorem dX9_log_28 : decode cX9_log 28 = .ok (.getfield 158, 3) := by decide +kernel
theorem dX9_log_31 : decode cX9_log 31 = .ok (.iload_n 2, 1) := by decide +kernel
theorem dX9_log_32 : decode cX9_log 32 = .ok (.iastore, 1) := by decide +kernel
theorem dX9_log_33 : decode cX9_log 33 = .ok (.aload_n 0, 1) := by decide +kernel
theorem dX9_log_34 : decode cX9_log 34 = .ok (.getfield 68, 3) := by decide +kernel
theorem dX9_log_37 : decode cX9_log 37 = .ok (.aload_n 0, 1) := by decide +kernel
theorem dX9_log_38 : decode cX9_log 38 = .ok (.getfield 158, 3) := by decide +kernel
theorem dX9_log_41 : decode cX9_log 41 = .ok (.iload_n 3, 1) := by decide +kernel
theorem dX9_log_42 : decode cX9_log 42 = .ok (.iastore, 1) := by decide +kernel
theorem dX9_log_43 : decode cX9_log 43 = .ok (.aload_n 0, 1) := by decide +kernel
theorem dX9_log_44 : decode cX9_log 44 = .ok (.getfield 71, 3) := by decide +kernel
theorem dX9_log_47 : decode cX9_log 47 = .ok (.aload_n 0, 1) := by decide +kernel
theorem dX9_log_48 : decode cX9_log 48 = .ok (.getfield 158, 3) := by decide +kernel
theorem dX9_log_51 : decode cX9_log 51 = .ok (.iload 4, 2) := by decide +kernel
theorem dX9_log_53 : decode cX9_log 53 = .ok (.iastore, 1) := by decide +kernel
theorem dX9_log_54 : decode cX9_log 54 = .ok (.aload_n 0, 1) := by decide +kernel
theorem dX9_log_55 : decode cX9_log 55 = .ok (.dup, 1) := by decide +kernel
theorem dX9_log_56 : decode cX9_log 56 = .ok (.getfield 158, 3) := by decide +kernel
theorem dX9_log_59 : decode cX9_log 59 = .ok (.iconst 1, 1) := by decide +kernel
theorem dX9_log_60 : decode cX9_log 60 = .ok (.iadd, 1) := by decide +kernel
theorem dX9_log_61 : decode cX9_log 61 = .ok (.putfield 158, 3) := by decide +kernel
theorem dX9_log_64 : decode cX9_log 64 = .ok (.return_, 1) := by decide +kernel
theorem dX9_step_0 : decode cX9_step 0 = .ok (.aload_n 0, 1) := by decide +kernel
theorem dX9_step_1 : decode cX9_step 1 = .ok (.iload_n 1, 1) := by decide +kernel
theorem dX9_step_2 : decode cX9_step 2 = .ok (.iload_n 2, 1) := by decide +kernel
theorem dX9_step_3 : decode cX9_step 3 = .ok (.iload_n 3, 1) := by decide +kernel
theorem dX9_step_4 : decode cX9_step 4 = .ok (.iload 4, 2) := by decide +kernel
theorem dX9_step_6 : decode cX9_step 6 = .ok (.invokevirtual 164, 3) := by decide +kernel
theorem dX9_step_9 : decode cX9_step 9 = .ok (.aload_n 0, 1) := by decide +kernel
theorem dX9_step_10 : decode cX9_step 10 = .ok (.iconst 0, 1) := by decide +kernel
theorem dX9_step_11 : decode cX9_step 11 = .ok (.aload_n 0, 1) := by decide +kernel
theorem dX9_step_12 : decode cX9_step 12 = .ok (.getfield 158, 3) := by decide +kernel
theorem dX9_step_15 : decode cX9_step 15 = .ok (.iconst 1, 1) := by decide +kernel
theorem dX9_step_16 : decode cX9_step 16 = .ok (.isub, 1) := by decide +kernel
theorem dX9_step_17 : decode cX9_step 17 = .ok (.invokevirtual 168, 3) := by decide +kernel
theorem dX9_step_20 : decode cX9_step 20 = .ok (.return_, 1) := by decide +kernel
theorem dX9_begin_0 : decode cX9_begin 0 = .ok (.aload_n 0, 1) := by decide +kernel
theorem dX9_begin_1 : decode cX9_begin 1 = .ok (.iconst 0, 1) := by decide +kernel
theorem dX9_begin_2 : decode cX9_begin 2 = .ok (.iconst 4, 1) := by decide +kernel
theorem dX9_begin_3 : decode cX9_begin 3 = .ok (.invokevirtual 172, 3) := by decide +kernel
theorem dX9_begin_6 : decode cX9_begin 6 = .ok (.iconst 0, 1) := by decide +kernel
theorem dX9_begin_7 : decode cX9_begin 7 = .ok (.istore_n 1, 1) := by decide +kernel
theorem dX9_begin_8 : decode cX9_begin 8 = .ok (.iload_n 1, 1) := by decide +kernel
theorem dX9_begin_9 : decode cX9_begin 9 = .ok (.bipush 80, 2) := by decide +kernel
theorem dX9_begin_11 : decode cX9_begin 11 = .ok (.if_icmp .ge 21, 3) := by decide +kernel
theorem dX9_begin_14 : decode cX9_begin 14 = .ok (.aload_n 0, 1) := by decide +kernel
theorem dX9_begin_15 : decode cX9_begin 15 = .ok (.getfield 55, 3) := by decide +kernel
theorem dX9_begin_18 : decode cX9_begin 18 = .ok (.iload_n 1, 1) := by decide +kernel
theorem dX9_begin_19 : decode cX9_begin 19 = .ok (.aload_n 0, 1) := by decide +kernel
theorem dX9_begin_20 : decode cX9_begin 20 = .ok (.getfield 25, 3) := by decide +kernel
theorem dX9_begin_23 : decode cX9_begin 23 = .ok (.iload_n 1, 1) := by decide +kernel
theorem dX9_begin_24 : decode cX9_begin 24 = .ok (.iaload, 1) := by decide +kernel
theorem dX9_begin_25 : decode cX9_begin 25 = .ok (.iastore, 1) := by decide +kernel
theorem dX9_begin_26 : decode cX9_begin 26 = .ok (.iinc 1 1, 3) := by decide +kernel
theorem dX9_begin_29 : decode cX9_begin 29 = .ok (.goto (-21), 3) := by decide +kernel
theorem dX9_begin_32 : decode cX9_begin 32 = .ok (.aload_n 0, 1) := by decide +kernel
theorem dX9_begin_33 : decode cX9_begin 33 = .ok (.aload_n 0, 1) := by decide +kernel
theorem dX9_begin_34 : decode cX9_begin 34 = .ok (.getfield 141, 3) := by decide +kernel
theorem dX9_begin_37 : decode cX9_begin 37 = .ok (.putfield 175, 3) := by decide +kernel
theorem dX9_begin_40 : decode cX9_begin 40 = .ok (.aload_n 0, 1) := by decide +kernel
theorem dX9_begin_41 : decode cX9_begin 41 = .ok (.aload_n 0, 1) := by decide +kernel
theorem dX9_begin_42 : decode cX9_begin 42 = .ok (.getfield 158, 3) := by decide +kernel
theorem dX9_begin_45 : decode cX9_begin 45 = .ok (.putfield 178, 3) := by decide +kernel
theorem dX9_begin_48 : decode cX9_begin 48 = .ok (.aload_n 0, 1) := by decide +kernel
theorem dX9_begin_49 : decode cX9_begin 49 = .ok (.aload_n 0, 1) := by decide +kernel
theorem dX9_begin_50 : decode cX9_begin 50 = .ok (.getfield 181, 3) := by decide +kernel
theorem dX9_begin_53 : decode cX9_begin 53 = .ok (.iconst 1, 1) := by decide +kernel
theorem dX9_begin_54 : decode cX9_begin 54 = .ok (.iadd, 1) := by decide +kernel
theorem dX9_begin_55 : decode cX9_begin 55 = .ok (.putfield 161, 3) := by decide +kernel
theorem dX9_begin_58 : decode cX9_begin 58 = .ok (.return_, 1) := by decide +kernel
theorem dX9_undo_0 : decode cX9_undo 0 = .ok (.aload_n 0, 1) := by decide +kernel
theorem dX9_undo_1 : decode cX9_undo 1 = .ok (.iconst 4, 1) := by decide +kernel
theorem dX9_undo_2 : decode cX9_undo 2 = .ok (.iconst 0, 1) := by decide +kernel
theorem dX9_undo_3 : decode cX9_undo 3 = .ok (.invokevirtual 172, 3) := by decide +kernel
theorem dX9_undo_6 : decode cX9_undo 6 = .ok (.iconst 0, 1) := by decide +kernel
theorem dX9_undo_7 : decode cX9_undo 7 = .ok (.istore_n 1, 1) := by decide +kernel
theorem dX9_undo_8 : decode cX9_undo 8 = .ok (.iload_n 1, 1) := by decide +kernel
theorem dX9_undo_9 : decode cX9_undo 9 = .ok (.bipush 80, 2) := by decide +kernel
theorem dX9_undo_11 : decode cX9_undo 11 = .ok (.if_icmp .ge 21, 3) := by decide +kernel
theorem dX9_undo_14 : decode cX9_undo 14 = .ok (.aload_n 0, 1) := by decide +kernel
theorem dX9_undo_15 : decode cX9_undo 15 = .ok (.getfield 25, 3) := by decide +kernel
theorem dX9_undo_18 : decode cX9_undo 18 = .ok (.iload_n 1, 1) := by decide +kernel
theorem dX9_undo_19 : decode cX9_undo 19 = .ok (.aload_n 0, 1) := by decide +kernel
theorem dX9_undo_20 : decode cX9_undo 20 = .ok (.getfield 55, 3) := by decide +kernel
theorem dX9_undo_23 : decode cX9_undo 23 = .ok (.iload_n 1, 1) := by decide +kernel
theorem dX9_undo_24 : decode cX9_undo 24 = .ok (.iaload, 1) := by decide +kernel
theorem dX9_undo_25 : decode cX9_undo 25 = .ok (.iastore, 1) := by decide +kernel
theorem dX9_undo_26 : decode cX9_undo 26 = .ok (.iinc 1 1, 3) := by decide +kernel
theorem dX9_undo_29 : decode cX9_undo 29 = .ok (.goto (-21), 3) := by decide +kernel
theorem dX9_undo_32 : decode cX9_undo 32 = .ok (.aload_n 0, 1) := by decide +kernel
theorem dX9_undo_33 : decode cX9_undo 33 = .ok (.aload_n 0, 1) := by decide +kernel
theorem dX9_undo_34 : decode cX9_undo 34 = .ok (.getfield 175, 3) := by decide +kernel
theorem dX9_undo_37 : decode cX9_undo 37 = .ok (.putfield 141, 3) := by decide +kernel
theorem dX9_undo_40 : decode cX9_undo 40 = .ok (.aload_n 0, 1) := by decide +kernel
theorem dX9_undo_41 : decode cX9_undo 41 = .ok (.aload_n 0, 1) := by decide +kernel
theorem dX9_undo_42 : decode cX9_undo 42 = .ok (.getfield 178, 3) := by decide +kernel
theorem dX9_undo_45 : decode cX9_undo 45 = .ok (.putfield 158, 3) := by decide +kernel
theorem dX9_undo_48 : decode cX9_undo 48 = .ok (.return_, 1) := by decide +kernel
theorem dX9_isBelow_0 : decode cX9_isBelow 0 = .ok (.iload_n 1, 1) := by decide +kernel
theorem dX9_isBelow_1 : decode cX9_isBelow 1 = .ok (.istore_n 3, 1) := by decide +kernel
theorem dX9_isBelow_2 : decode cX9_isBelow 2 = .ok (.iload_n 3, 1) := by decide +kernel
theorem dX9_isBelow_3 : decode cX9_isBelow 3 = .ok (.ifCond .le 18, 3) := by decide +kernel
theorem dX9_isBelow_6 : decode cX9_isBelow 6 = .ok (.iload_n 3, 1) := by decide +kernel
theorem dX9_isBelow_7 : decode cX9_isBelow 7 = .ok (.iload_n 2, 1) := by decide +kernel
theorem dX9_isBelow_8 : decode cX9_isBelow 8 = .ok (.if_icmp .eq 13, 3) := by decide +kernel
theorem dX9_isBelow_11 : decode cX9_isBelow 11 = .ok (.aload_n 0, 1) := by decide +kernel
theorem dX9_isBelow_12 : decode cX9_isBelow 12 = .ok (.getfield 7, 3) := by decide +kernel
theorem dX9_isBelow_15 : decode cX9_isBelow 15 = .ok (.iload_n 3, 1) := by decide +kernel
theorem dX9_isBelow_16 : decode cX9_isBelow 16 = .ok (.iaload, 1) := by decide +kernel
theorem dX9_isBelow_17 : decode cX9_isBelow 17 = .ok (.istore_n 3, 1) := by decide +kernel
theorem dX9_isBelow_18 : decode cX9_isBelow 18 = .ok (.goto (-16), 3) := by decide +kernel
theorem dX9_isBelow_21 : decode cX9_isBelow 21 = .ok (.iload_n 3, 1) := by decide +kernel
theorem dX9_isBelow_22 : decode cX9_isBelow 22 = .ok (.iload_n 2, 1) := by decide +kernel
theorem dX9_isBelow_23 : decode cX9_isBelow 23 = .ok (.if_icmp .ne 7, 3) := by decide +kernel
theorem dX9_isBelow_26 : decode cX9_isBelow 26 = .ok (.iconst 1, 1) := by decide +kernel
theorem dX9_isBelow_27 : decode cX9_isBelow 27 = .ok (.goto 4, 3) := by decide +kernel
theorem dX9_isBelow_30 : decode cX9_isBelow 30 = .ok (.iconst 0, 1) := by decide +kernel
theorem dX9_isBelow_31 : decode cX9_isBelow 31 = .ok (.ireturn, 1) := by decide +kernel
theorem dX9_tell_0 : decode cX9_tell 0 = .ok (.aload_n 0, 1) := by decide +kernel
theorem dX9_tell_1 : decode cX9_tell 1 = .ok (.getfield 120, 3) := by decide +kernel
theorem dX9_tell_4 : decode cX9_tell 4 = .ok (.sipush 8000, 3) := by decide +kernel
theorem dX9_tell_7 : decode cX9_tell 7 = .ok (.iload_n 1, 1) := by decide +kernel
theorem dX9_tell_8 : decode cX9_tell 8 = .ok (.imul, 1) := by decide +kernel
theorem dX9_tell_9 : decode cX9_tell 9 = .ok (.aload_n 0, 1) := by decide +kernel
theorem dX9_tell_10 : decode cX9_tell 10 = .ok (.getfield 126, 3) := by decide +kernel
theorem dX9_tell_13 : decode cX9_tell 13 = .ok (.iload_n 1, 1) := by decide +kernel
theorem dX9_tell_14 : decode cX9_tell 14 = .ok (.iaload, 1) := by decide +kernel
theorem dX9_tell_15 : decode cX9_tell 15 = .ok (.iadd, 1) := by decide +kernel
theorem dX9_tell_16 : decode cX9_tell 16 = .ok (.iload_n 2, 1) := by decide +kernel
theorem dX9_tell_17 : decode cX9_tell 17 = .ok (.iastore, 1) := by decide +kernel
theorem dX9_tell_18 : decode cX9_tell 18 = .ok (.aload_n 0, 1) := by decide +kernel
theorem dX9_tell_19 : decode cX9_tell 19 = .ok (.getfield 126, 3) := by decide +kernel
theorem dX9_tell_22 : decode cX9_tell 22 = .ok (.iload_n 1, 1) := by decide +kernel
theorem dX9_tell_23 : decode cX9_tell 23 = .ok (.dup2, 1) := by decide +kernel
theorem dX9_tell_24 : decode cX9_tell 24 = .ok (.iaload, 1) := by decide +kernel
theorem dX9_tell_25 : decode cX9_tell 25 = .ok (.iconst 1, 1) := by decide +kernel
theorem dX9_tell_26 : decode cX9_tell 26 = .ok (.iadd, 1) := by decide +kernel
theorem dX9_tell_27 : decode cX9_tell 27 = .ok (.iastore, 1) := by decide +kernel
theorem dX9_tell_28 : decode cX9_tell 28 = .ok (.return_, 1) := by decide +kernel
theorem dX9_watched_0 : decode cX9_watched 0 = .ok (.aload_n 0, 1) := by decide +kernel
theorem dX9_watched_1 : decode cX9_watched 1 = .ok (.getfield 65, 3) := by decide +kernel
theorem dX9_watched_4 : decode cX9_watched 4 = .ok (.iload_n 2, 1) := by decide +kernel
theorem dX9_watched_5 : decode cX9_watched 5 = .ok (.iaload, 1) := by decide +kernel
theorem dX9_watched_6 : decode cX9_watched 6 = .ok (.istore_n 3, 1) := by decide +kernel
theorem dX9_watched_7 : decode cX9_watched 7 = .ok (.aload_n 0, 1) := by decide +kernel
theorem dX9_watched_8 : decode cX9_watched 8 = .ok (.getfield 62, 3) := by decide +kernel
theorem dX9_watched_11 : decode cX9_watched 11 = .ok (.iload_n 2, 1) := by decide +kernel
theorem dX9_watched_12 : decode cX9_watched 12 = .ok (.iaload, 1) := by decide +kernel
theorem dX9_watched_13 : decode cX9_watched 13 = .ok (.istore 4, 2) := by decide +kernel
theorem dX9_watched_15 : decode cX9_watched 15 = .ok (.iconst 0, 1) := by decide +kernel
theorem dX9_watched_16 : decode cX9_watched 16 = .ok (.istore 5, 2) := by decide +kernel
theorem dX9_watched_18 : decode cX9_watched 18 = .ok (.aload_n 0, 1) := by decide +kernel
theorem dX9_watched_19 : decode cX9_watched 19 = .ok (.getfield 116, 3) := by decide +kernel
theorem dX9_watched_22 : decode cX9_watched 22 = .ok (.iload_n 1, 1) := by decide +kernel
theorem dX9_watched_23 : decode cX9_watched 23 = .ok (.iaload, 1) := by decide +kernel
theorem dX9_watched_24 : decode cX9_watched 24 = .ok (.istore 6, 2) := by decide +kernel
theorem dX9_watched_26 : decode cX9_watched 26 = .ok (.iconst 0, 1) := by decide +kernel
theorem dX9_watched_27 : decode cX9_watched 27 = .ok (.istore 7, 2) := by decide +kernel
theorem dX9_watched_29 : decode cX9_watched 29 = .ok (.iload 7, 2) := by decide +kernel
theorem dX9_watched_31 : decode cX9_watched 31 = .ok (.iload 6, 2) := by decide +kernel
theorem dX9_watched_33 : decode cX9_watched 33 = .ok (.if_icmp .ge 220, 3) := by decide +kernel
theorem dX9_watched_36 : decode cX9_watched 36 = .ok (.bipush 8, 2) := by decide +kernel
theorem dX9_watched_38 : decode cX9_watched 38 = .ok (.iload_n 1, 1) := by decide +kernel
theorem dX9_watched_39 : decode cX9_watched 39 = .ok (.imul, 1) := by decide +kernel
theorem dX9_watched_40 : decode cX9_watched 40 = .ok (.iload 7, 2) := by decide +kernel
theorem dX9_watched_42 : decode cX9_watched 42 = .ok (.iadd, 1) := by decide +kernel
theorem dX9_watched_43 : decode cX9_watched 43 = .ok (.istore 8, 2) := by decide +kernel
theorem dX9_watched_45 : decode cX9_watched 45 = .ok (.aload_n 0, 1) := by decide +kernel
theorem dX9_watched_46 : decode cX9_watched 46 = .ok (.getfield 113, 3) := by decide +kernel
theorem dX9_watched_49 : decode cX9_watched 49 = .ok (.iload 8, 2) := by decide +kernel
theorem dX9_watched_51 : decode cX9_watched 51 = .ok (.iaload, 1) := by decide +kernel
theorem dX9_watched_52 : decode cX9_watched 52 = .ok (.ifCond .ne 27, 3) := by decide +kernel
theorem dX9_watched_55 : decode cX9_watched 55 = .ok (.aload_n 0, 1) := by decide +kernel
theorem dX9_watched_56 : decode cX9_watched 56 = .ok (.getfield 110, 3) := by decide +kernel
theorem dX9_watched_59 : decode cX9_watched 59 = .ok (.iload 8, 2) := by decide +kernel
theorem dX9_watched_61 : decode cX9_watched 61 = .ok (.iaload, 1) := by decide +kernel
theorem dX9_watched_62 : decode cX9_watched 62 = .ok (.iload_n 3, 1) := by decide +kernel
theorem dX9_watched_63 : decode cX9_watched 63 = .ok (.if_icmp .ne 12, 3) := by decide +kernel
theorem dX9_watched_66 : decode cX9_watched 66 = .ok (.iload 4, 2) := by decide +kernel
theorem dX9_watched_68 : decode cX9_watched 68 = .ok (.ifCond .le 7, 3) := by decide +kernel
theorem dX9_watched_71 : decode cX9_watched 71 = .ok (.iconst 1, 1) := by decide +kernel
theorem dX9_watched_72 : decode cX9_watched 72 = .ok (.goto 81, 3) := by decide +kernel
theorem dX9_watched_75 : decode cX9_watched 75 = .ok (.iconst 0, 1) := by decide +kernel
theorem dX9_watched_76 : decode cX9_watched 76 = .ok (.goto 77, 3) := by decide +kernel
theorem dX9_watched_79 : decode cX9_watched 79 = .ok (.aload_n 0, 1) := by decide +kernel
theorem dX9_watched_80 : decode cX9_watched 80 = .ok (.getfield 113, 3) := by decide +kernel
theorem dX9_watched_83 : decode cX9_watched 83 = .ok (.iload 8, 2) := by decide +kernel
theorem dX9_watched_85 : decode cX9_watched 85 = .ok (.iaload, 1) := by decide +kernel
theorem dX9_watched_86 : decode cX9_watched 86 = .ok (.iconst 1, 1) := by decide +kernel
theorem dX9_watched_87 : decode cX9_watched 87 = .ok (.if_icmp .ne 54, 3) := by decide +kernel
theorem dX9_watched_90 : decode cX9_watched 90 = .ok (.iload 4, 2) := by decide +kernel
theorem dX9_watched_92 : decode cX9_watched 92 = .ok (.iconst 2, 1) := by decide +kernel
theorem dX9_watched_93 : decode cX9_watched 93 = .ok (.if_icmp .ne 14, 3) := by decide +kernel
theorem dX9_watched_96 : decode cX9_watched 96 = .ok (.aload_n 0, 1) := by decide +kernel
theorem dX9_watched_97 : decode cX9_watched 97 = .ok (.getfield 110, 3) := by decide +kernel
theorem dX9_watched_100 : decode cX9_watched 100 = .ok (.iload 8, 2) := by decide +kernel
theorem dX9_watched_102 : decode cX9_watched 102 = .ok (.iaload, 1) := by decide +kernel
theorem dX9_watched_103 : decode cX9_watched 103 = .ok (.iload_n 3, 1) := by decide +kernel
theorem dX9_watched_104 : decode cX9_watched 104 = .ok (.if_icmp .eq 29, 3) := by decide +kernel
theorem dX9_watched_107 : decode cX9_watched 107 = .ok (.iload 4, 2) := by decide +kernel
theorem dX9_watched_109 : decode cX9_watched 109 = .ok (.iconst 1, 1) := by decide +kernel
theorem dX9_watched_110 : decode cX9_watched 110 = .ok (.if_icmp .eq 27, 3) := by decide +kernel
theorem dX9_watched_113 : decode cX9_watched 113 = .ok (.iload_n 3, 1) := by decide +kernel
theorem dX9_watched_114 : decode cX9_watched 114 = .ok (.ifCond .le 23, 3) := by decide +kernel
theorem dX9_watched_117 : decode cX9_watched 117 = .ok (.aload_n 0, 1) := by decide +kernel
theorem dX9_watched_118 : decode cX9_watched 118 = .ok (.getfield 110, 3) := by decide +kernel
theorem dX9_watched_121 : decode cX9_watched 121 = .ok (.iload 8, 2) := by decide +kernel
theorem dX9_watched_123 : decode cX9_watched 123 = .ok (.iaload, 1) := by decide +kernel
theorem dX9_watched_124 : decode cX9_watched 124 = .ok (.aload_n 0, 1) := by decide +kernel
theorem dX9_watched_125 : decode cX9_watched 125 = .ok (.getfield 7, 3) := by decide +kernel
theorem dX9_watched_128 : decode cX9_watched 128 = .ok (.iload_n 3, 1) := by decide +kernel
theorem dX9_watched_129 : decode cX9_watched 129 = .ok (.iaload, 1) := by decide +kernel
theorem dX9_watched_130 : decode cX9_watched 130 = .ok (.if_icmp .ne 7, 3) := by decide +kernel
theorem dX9_watched_133 : decode cX9_watched 133 = .ok (.iconst 1, 1) := by decide +kernel
theorem dX9_watched_134 : decode cX9_watched 134 = .ok (.goto 19, 3) := by decide +kernel
theorem dX9_watched_137 : decode cX9_watched 137 = .ok (.iconst 0, 1) := by decide +kernel
theorem dX9_watched_138 : decode cX9_watched 138 = .ok (.goto 15, 3) := by decide +kernel
theorem dX9_watched_141 : decode cX9_watched 141 = .ok (.aload_n 0, 1) := by decide +kernel
theorem dX9_watched_142 : decode cX9_watched 142 = .ok (.iload_n 3, 1) := by decide +kernel
theorem dX9_watched_143 : decode cX9_watched 143 = .ok (.aload_n 0, 1) := by decide +kernel
theorem dX9_watched_144 : decode cX9_watched 144 = .ok (.getfield 110, 3) := by decide +kernel
theorem dX9_watched_147 : decode cX9_watched 147 = .ok (.iload 8, 2) := by decide +kernel
theorem dX9_watched_149 : decode cX9_watched 149 = .ok (.iaload, 1) := by decide +kernel
theorem dX9_watched_150 : decode cX9_watched 150 = .ok (.invokevirtual 184, 3) := by decide +kernel
theorem dX9_watched_153 : decode cX9_watched 153 = .ok (.istore 9, 2) := by decide +kernel
theorem dX9_watched_155 : decode cX9_watched 155 = .ok (.iload 9, 2) := by decide +kernel
theorem dX9_watched_157 : decode cX9_watched 157 = .ok (.ifCond .eq 13, 3) := by decide +kernel
theorem dX9_watched_160 : decode cX9_watched 160 = .ok (.iload 4, 2) := by decide +kernel
theorem dX9_watched_162 : decode cX9_watched 162 = .ok (.iconst 3, 1) := by decide +kernel
theorem dX9_watched_163 : decode cX9_watched 163 = .ok (.if_icmp .ge 7, 3) := by decide +kernel
theorem dX9_watched_166 : decode cX9_watched 166 = .ok (.iconst 1, 1) := by decide +kernel
theorem dX9_watched_167 : decode cX9_watched 167 = .ok (.goto 4, 3) := by decide +kernel
theorem dX9_watched_170 : decode cX9_watched 170 = .ok (.iconst 0, 1) := by decide +kernel
theorem dX9_watched_171 : decode cX9_watched 171 = .ok (.istore 9, 2) := by decide +kernel
theorem dX9_watched_173 : decode cX9_watched 173 = .ok (.iload 9, 2) := by decide +kernel
theorem dX9_watched_175 : decode cX9_watched 175 = .ok (.ifCond .eq 15, 3) := by decide +kernel
theorem dX9_watched_178 : decode cX9_watched 178 = .ok (.aload_n 0, 1) := by decide +kernel
theorem dX9_watched_179 : decode cX9_watched 179 = .ok (.iload_n 1, 1) := by decide +kernel
theorem dX9_watched_180 : decode cX9_watched 180 = .ok (.bipush 10, 2) := by decide +kernel
theorem dX9_watched_182 : decode cX9_watched 182 = .ok (.iload_n 3, 1) := by decide +kernel
theorem dX9_watched_183 : decode cX9_watched 183 = .ok (.imul, 1) := by decide +kernel
theorem dX9_watched_184 : decode cX9_watched 184 = .ok (.iload 4, 2) := by decide +kernel
theorem dX9_watched_186 : decode cX9_watched 186 = .ok (.iadd, 1) := by decide +kernel
theorem dX9_watched_187 : decode cX9_watched 187 = .ok (.invokevirtual 188, 3) := by decide +kernel
theorem dX9_watched_190 : decode cX9_watched 190 = .ok (.iload 9, 2) := by decide +kernel
theorem dX9_watched_192 : decode cX9_watched 192 = .ok (.ifCond .eq 14, 3) := by decide +kernel
theorem dX9_watched_195 : decode cX9_watched 195 = .ok (.aload_n 0, 1) := by decide +kernel
theorem dX9_watched_196 : decode cX9_watched 196 = .ok (.getfield 113, 3) := by decide +kernel
theorem dX9_watched_199 : decode cX9_watched 199 = .ok (.iload 8, 2) := by decide +kernel
theorem dX9_watched_201 : decode cX9_watched 201 = .ok (.iaload, 1) := by decide +kernel
theorem dX9_watched_202 : decode cX9_watched 202 = .ok (.iconst 2, 1) := by decide +kernel
theorem dX9_watched_203 : decode cX9_watched 203 = .ok (.if_icmp .ne 44, 3) := by decide +kernel
theorem dX9_watched_206 : decode cX9_watched 206 = .ok (.aload_n 0, 1) := by decide +kernel
theorem dX9_watched_207 : decode cX9_watched 207 = .ok (.getfield 110, 3) := by decide +kernel
theorem dX9_watched_210 : decode cX9_watched 210 = .ok (.bipush 8, 2) := by decide +kernel
theorem dX9_watched_212 : decode cX9_watched 212 = .ok (.iload_n 1, 1) := by decide +kernel
theorem dX9_watched_213 : decode cX9_watched 213 = .ok (.imul, 1) := by decide +kernel
theorem dX9_watched_214 : decode cX9_watched 214 = .ok (.iload 5, 2) := by decide +kernel
theorem dX9_watched_216 : decode cX9_watched 216 = .ok (.iadd, 1) := by decide +kernel
theorem dX9_watched_217 : decode cX9_watched 217 = .ok (.aload_n 0, 1) := by decide +kernel
theorem dX9_watched_218 : decode cX9_watched 218 = .ok (.getfield 110, 3) := by decide +kernel
theorem dX9_watched_221 : decode cX9_watched 221 = .ok (.iload 8, 2) := by decide +kernel
theorem dX9_watched_223 : decode cX9_watched 223 = .ok (.iaload, 1) := by decide +kernel
theorem dX9_watched_224 : decode cX9_watched 224 = .ok (.iastore, 1) := by decide +kernel
theorem dX9_watched_225 : decode cX9_watched 225 = .ok (.aload_n 0, 1) := by decide +kernel
theorem dX9_watched_226 : decode cX9_watched 226 = .ok (.getfield 113, 3) := by decide +kernel
theorem dX9_watched_229 : decode cX9_watched 229 = .ok (.bipush 8, 2) := by decide +kernel
theorem dX9_watched_231 : decode cX9_watched 231 = .ok (.iload_n 1, 1) := by decide +kernel
theorem dX9_watched_232 : decode cX9_watched 232 = .ok (.imul, 1) := by decide +kernel
theorem dX9_watched_233 : decode cX9_watched 233 = .ok (.iload 5, 2) := by decide +kernel
theorem dX9_watched_235 : decode cX9_watched 235 = .ok (.iadd, 1) := by decide +kernel
theorem dX9_watched_236 : decode cX9_watched 236 = .ok (.aload_n 0, 1) := by decide +kernel
theorem dX9_watched_237 : decode cX9_watched 237 = .ok (.getfield 113, 3) := by decide +kernel
theorem dX9_watched_240 : decode cX9_watched 240 = .ok (.iload 8, 2) := by decide +kernel
theorem dX9_watched_242 : decode cX9_watched 242 = .ok (.iaload, 1) := by decide +kernel
theorem dX9_watched_243 : decode cX9_watched 243 = .ok (.iastore, 1) := by decide +kernel
theorem dX9_watched_244 : decode cX9_watched 244 = .ok (.iinc 5 1, 3) := by decide +kernel
theorem dX9_watched_247 : decode cX9_watched 247 = .ok (.iinc 7 1, 3) := by decide +kernel
theorem dX9_watched_250 : decode cX9_watched 250 = .ok (.goto (-221), 3) := by decide +kernel
theorem dX9_watched_253 : decode cX9_watched 253 = .ok (.aload_n 0, 1) := by decide +kernel
theorem dX9_watched_254 : decode cX9_watched 254 = .ok (.getfield 116, 3) := by decide +kernel
theorem dX9_watched_257 : decode cX9_watched 257 = .ok (.iload_n 1, 1) := by decide +kernel
theorem dX9_watched_258 : decode cX9_watched 258 = .ok (.iload 5, 2) := by decide +kernel
theorem dX9_watched_260 : decode cX9_watched 260 = .ok (.iastore, 1) := by decide +kernel
theorem dX9_watched_261 : decode cX9_watched 261 = .ok (.return_, 1) := by decide +kernel
theorem dX9_notice_0 : decode cX9_notice 0 = .ok (.iconst 0, 1) := by decide +kernel
theorem dX9_notice_1 : decode cX9_notice 1 = .ok (.istore_n 3, 1) := by decide +kernel
theorem dX9_notice_2 : decode cX9_notice 2 = .ok (.iload_n 3, 1) := by decide +kernel
theorem dX9_notice_3 : decode cX9_notice 3 = .ok (.aload_n 0, 1) := by decide +kernel
theorem dX9_notice_4 : decode cX9_notice 4 = .ok (.getfield 148, 3) := by decide +kernel
theorem dX9_notice_7 : decode cX9_notice 7 = .ok (.if_icmp .ge 34, 3) := by decide +kernel
theorem dX9_notice_10 : decode cX9_notice 10 = .ok (.aload_n 0, 1) := by decide +kernel
theorem dX9_notice_11 : decode cX9_notice 11 = .ok (.getfield 92, 3) := by decide +kernel
theorem dX9_notice_14 : decode cX9_notice 14 = .ok (.iload_n 3, 1) := by decide +kernel
theorem dX9_notice_15 : decode cX9_notice 15 = .ok (.iaload, 1) := by decide +kernel
theorem dX9_notice_16 : decode cX9_notice 16 = .ok (.ifCond .ne 19, 3) := by decide +kernel
theorem dX9_notice_19 : decode cX9_notice 19 = .ok (.aload_n 0, 1) := by decide +kernel
theorem dX9_notice_20 : decode cX9_notice 20 = .ok (.getfield 83, 3) := by decide +kernel
theorem dX9_notice_23 : decode cX9_notice 23 = .ok (.iload_n 3, 1) := by decide +kernel
theorem dX9_notice_24 : decode cX9_notice 24 = .ok (.iaload, 1) := by decide +kernel
theorem dX9_notice_25 : decode cX9_notice 25 = .ok (.iload_n 1, 1) := by decide +kernel
theorem dX9_notice_26 : decode cX9_notice 26 = .ok (.if_icmp .ne 9, 3) := by decide +kernel
theorem dX9_notice_29 : decode cX9_notice 29 = .ok (.aload_n 0, 1) := by decide +kernel
theorem dX9_notice_30 : decode cX9_notice 30 = .ok (.iload_n 3, 1) := by decide +kernel
theorem dX9_notice_31 : decode cX9_notice 31 = .ok (.iload_n 2, 1) := by decide +kernel
theorem dX9_notice_32 : decode cX9_notice 32 = .ok (.invokevirtual 191, 3) := by decide +kernel
theorem dX9_notice_35 : decode cX9_notice 35 = .ok (.iinc 3 1, 3) := by decide +kernel
theorem dX9_notice_38 : decode cX9_notice 38 = .ok (.goto (-36), 3) := by decide +kernel
theorem dX9_notice_41 : decode cX9_notice 41 = .ok (.return_, 1) := by decide +kernel
theorem dX9_follows_0 : decode cX9_follows 0 = .ok (.aload_n 0, 1) := by decide +kernel
theorem dX9_follows_1 : decode cX9_follows 1 = .ok (.getfield 74, 3) := by decide +kernel
theorem dX9_follows_4 : decode cX9_follows 4 = .ok (.iload_n 1, 1) := by decide +kernel
theorem dX9_follows_5 : decode cX9_follows 5 = .ok (.iaload, 1) := by decide +kernel
theorem dX9_follows_6 : decode cX9_follows 6 = .ok (.aload_n 0, 1) := by decide +kernel
theorem dX9_follows_7 : decode cX9_follows 7 = .ok (.getfield 158, 3) := by decide +kernel
theorem dX9_follows_10 : decode cX9_follows 10 = .ok (.if_icmp .ge 57, 3) := by decide +kernel
theorem dX9_follows_13 : decode cX9_follows 13 = .ok (.aload_n 0, 1) := by decide +kernel
theorem dX9_follows_14 : decode cX9_follows 14 = .ok (.getfield 59, 3) := by decide +kernel
theorem dX9_follows_17 : decode cX9_follows 17 = .ok (.aload_n 0, 1) := by decide +kernel
theorem dX9_follows_18 : decode cX9_follows 18 = .ok (.getfield 74, 3) := by decide +kernel
theorem dX9_follows_21 : decode cX9_follows 21 = .ok (.iload_n 1, 1) := by decide +kernel
theorem dX9_follows_22 : decode cX9_follows 22 = .ok (.iaload, 1) := by decide +kernel
theorem dX9_follows_23 : decode cX9_follows 23 = .ok (.iaload, 1) := by decide +kernel
theorem dX9_follows_24 : decode cX9_follows 24 = .ok (.iload_n 2, 1) := by decide +kernel
theorem dX9_follows_25 : decode cX9_follows 25 = .ok (.if_icmp .gt 42, 3) := by decide +kernel
theorem dX9_follows_28 : decode cX9_follows 28 = .ok (.iload_n 1, 1) := by decide +kernel
theorem dX9_follows_29 : decode cX9_follows 29 = .ok (.ifCond .le 14, 3) := by decide +kernel
theorem dX9_follows_32 : decode cX9_follows 32 = .ok (.aload_n 0, 1) := by decide +kernel
theorem dX9_follows_33 : decode cX9_follows 33 = .ok (.iload_n 1, 1) := by decide +kernel
theorem dX9_follows_34 : decode cX9_follows 34 = .ok (.aload_n 0, 1) := by decide +kernel
theorem dX9_follows_35 : decode cX9_follows 35 = .ok (.getfield 74, 3) := by decide +kernel
theorem dX9_follows_38 : decode cX9_follows 38 = .ok (.iload_n 1, 1) := by decide +kernel
theorem dX9_follows_39 : decode cX9_follows 39 = .ok (.iaload, 1) := by decide +kernel
theorem dX9_follows_40 : decode cX9_follows 40 = .ok (.invokevirtual 168, 3) := by decide +kernel
theorem dX9_follows_43 : decode cX9_follows 43 = .ok (.aload_n 0, 1) := by decide +kernel
theorem dX9_follows_44 : decode cX9_follows 44 = .ok (.iload_n 1, 1) := by decide +kernel
theorem dX9_follows_45 : decode cX9_follows 45 = .ok (.aload_n 0, 1) := by decide +kernel
theorem dX9_follows_46 : decode cX9_follows 46 = .ok (.getfield 74, 3) := by decide +kernel
theorem dX9_follows_49 : decode cX9_follows 49 = .ok (.iload_n 1, 1) := by decide +kernel
theorem dX9_follows_50 : decode cX9_follows 50 = .ok (.iaload, 1) := by decide +kernel
theorem dX9_follows_51 : decode cX9_follows 51 = .ok (.invokevirtual 194, 3) := by decide +kernel
theorem dX9_follows_54 : decode cX9_follows 54 = .ok (.aload_n 0, 1) := by decide +kernel
theorem dX9_follows_55 : decode cX9_follows 55 = .ok (.getfield 74, 3) := by decide +kernel
theorem dX9_follows_58 : decode cX9_follows 58 = .ok (.iload_n 1, 1) := by decide +kernel
theorem dX9_follows_59 : decode cX9_follows 59 = .ok (.dup2, 1) := by decide +kernel
theorem dX9_follows_60 : decode cX9_follows 60 = .ok (.iaload, 1) := by decide +kernel
theorem dX9_follows_61 : decode cX9_follows 61 = .ok (.iconst 1, 1) := by decide +kernel
theorem dX9_follows_62 : decode cX9_follows 62 = .ok (.iadd, 1) := by decide +kernel
theorem dX9_follows_63 : decode cX9_follows 63 = .ok (.iastore, 1) := by decide +kernel
theorem dX9_follows_64 : decode cX9_follows 64 = .ok (.goto (-64), 3) := by decide +kernel
theorem dX9_follows_67 : decode cX9_follows 67 = .ok (.aload_n 0, 1) := by decide +kernel
theorem dX9_follows_68 : decode cX9_follows 68 = .ok (.getfield 77, 3) := by decide +kernel
theorem dX9_follows_71 : decode cX9_follows 71 = .ok (.iload_n 1, 1) := by decide +kernel
theorem dX9_follows_72 : decode cX9_follows 72 = .ok (.aload_n 0, 1) := by decide +kernel
theorem dX9_follows_73 : decode cX9_follows 73 = .ok (.getfield 77, 3) := by decide +kernel
theorem dX9_follows_76 : decode cX9_follows 76 = .ok (.iload_n 1, 1) := by decide +kernel
theorem dX9_follows_77 : decode cX9_follows 77 = .ok (.iaload, 1) := by decide +kernel
theorem dX9_follows_78 : decode cX9_follows 78 = .ok (.iload_n 2, 1) := by decide +kernel
theorem dX9_follows_79 : decode cX9_follows 79 = .ok (.if_icmp .le 12, 3) := by decide +kernel
theorem dX9_follows_82 : decode cX9_follows 82 = .ok (.aload_n 0, 1) := by decide +kernel
theorem dX9_follows_83 : decode cX9_follows 83 = .ok (.getfield 77, 3) := by decide +kernel
theorem dX9_follows_86 : decode cX9_follows 86 = .ok (.iload_n 1, 1) := by decide +kernel
theorem dX9_follows_87 : decode cX9_follows 87 = .ok (.iaload, 1) := by decide +kernel
theorem dX9_follows_88 : decode cX9_follows 88 = .ok (.goto 4, 3) := by decide +kernel
theorem dX9_follows_91 : decode cX9_follows 91 = .ok (.iload_n 2, 1) := by decide +kernel
theorem dX9_follows_92 : decode cX9_follows 92 = .ok (.iastore, 1) := by decide +kernel
theorem dX9_follows_93 : decode cX9_follows 93 = .ok (.return_, 1) := by decide +kernel
theorem dX9_commit_0 : decode cX9_commit 0 = .ok (.aload_n 0, 1) := by decide +kernel
theorem dX9_commit_1 : decode cX9_commit 1 = .ok (.getfield 158, 3) := by decide +kernel
theorem dX9_commit_4 : decode cX9_commit 4 = .ok (.aload_n 0, 1) := by decide +kernel
theorem dX9_commit_5 : decode cX9_commit 5 = .ok (.getfield 178, 3) := by decide +kernel
theorem dX9_commit_8 : decode cX9_commit 8 = .ok (.if_icmp .le 11, 3) := by decide +kernel
theorem dX9_commit_11 : decode cX9_commit 11 = .ok (.aload_n 0, 1) := by decide +kernel
theorem dX9_commit_12 : decode cX9_commit 12 = .ok (.aload_n 0, 1) := by decide +kernel
theorem dX9_commit_13 : decode cX9_commit 13 = .ok (.getfield 161, 3) := by decide +kernel
theorem dX9_commit_16 : decode cX9_commit 16 = .ok (.putfield 181, 3) := by decide +kernel
theorem dX9_commit_19 : decode cX9_commit 19 = .ok (.aload_n 0, 1) := by decide +kernel
theorem dX9_commit_20 : decode cX9_commit 20 = .ok (.iconst 0, 1) := by decide +kernel
theorem dX9_commit_21 : decode cX9_commit 21 = .ok (.aload_n 0, 1) := by decide +kernel
theorem dX9_commit_22 : decode cX9_commit 22 = .ok (.getfield 181, 3) := by decide +kernel
theorem dX9_commit_25 : decode cX9_commit 25 = .ok (.invokevirtual 197, 3) := by decide +kernel
theorem dX9_commit_28 : decode cX9_commit 28 = .ok (.return_, 1) := by decide +kernel
theorem dX9_children_0 : decode cX9_children 0 = .ok (.iconst 0, 1) := by decide +kernel
theorem dX9_children_1 : decode cX9_children 1 = .ok (.istore_n 3, 1) := by decide +kernel
theorem dX9_children_2 : decode cX9_children 2 = .ok (.iconst 1, 1) := by decide +kernel
theorem dX9_children_3 : decode cX9_children 3 = .ok (.istore 4, 2) := by decide +kernel
theorem dX9_children_5 : decode cX9_children 5 = .ok (.iload 4, 2) := by decide +kernel
theorem dX9_children_7 : decode cX9_children 7 = .ok (.aload_n 0, 1) := by decide +kernel
theorem dX9_children_8 : decode cX9_children 8 = .ok (.getfield 141, 3) := by decide +kernel
theorem dX9_children_11 : decode cX9_children 11 = .ok (.if_icmp .ge 44, 3) := by decide +kernel
theorem dX9_children_14 : decode cX9_children 14 = .ok (.iload_n 3, 1) := by decide +kernel
theorem dX9_children_15 : decode cX9_children 15 = .ok (.aload_n 0, 1) := by decide +kernel
theorem dX9_children_16 : decode cX9_children 16 = .ok (.getfield 31, 3) := by decide +kernel
theorem dX9_children_19 : decode cX9_children 19 = .ok (.bipush 80, 2) := by decide +kernel
theorem dX9_children_21 : decode cX9_children 21 = .ok (.iload_n 1, 1) := by decide +kernel
theorem dX9_children_22 : decode cX9_children 22 = .ok (.imul, 1) := by decide +kernel
theorem dX9_children_23 : decode cX9_children 23 = .ok (.iload 4, 2) := by decide +kernel
theorem dX9_children_25 : decode cX9_children 25 = .ok (.iadd, 1) := by decide +kernel
theorem dX9_children_26 : decode cX9_children 26 = .ok (.iaload, 1) := by decide +kernel
theorem dX9_children_27 : decode cX9_children 27 = .ok (.iconst 1, 1) := by decide +kernel
theorem dX9_children_28 : decode cX9_children 28 = .ok (.if_icmp .ne 18, 3) := by decide +kernel
theorem dX9_children_31 : decode cX9_children 31 = .ok (.aload_n 0, 1) := by decide +kernel
theorem dX9_children_32 : decode cX9_children 32 = .ok (.getfield 7, 3) := by decide +kernel
theorem dX9_children_35 : decode cX9_children 35 = .ok (.iload 4, 2) := by decide +kernel
theorem dX9_children_37 : decode cX9_children 37 = .ok (.iaload, 1) := by decide +kernel
theorem dX9_children_38 : decode cX9_children 38 = .ok (.iload_n 2, 1) := by decide +kernel
theorem dX9_children_39 : decode cX9_children 39 = .ok (.if_icmp .ne 7, 3) := by decide +kernel
theorem dX9_children_42 : decode cX9_children 42 = .ok (.iconst 1, 1) := by decide +kernel
theorem dX9_children_43 : decode cX9_children 43 = .ok (.goto 4, 3) := by decide +kernel
theorem dX9_children_46 : decode cX9_children 46 = .ok (.iconst 0, 1) := by decide +kernel
theorem dX9_children_47 : decode cX9_children 47 = .ok (.iadd, 1) := by decide +kernel
theorem dX9_children_48 : decode cX9_children 48 = .ok (.istore_n 3, 1) := by decide +kernel
theorem dX9_children_49 : decode cX9_children 49 = .ok (.iinc 4 1, 3) := by decide +kernel
theorem dX9_children_52 : decode cX9_children 52 = .ok (.goto (-47), 3) := by decide +kernel
theorem dX9_children_55 : decode cX9_children 55 = .ok (.iload_n 3, 1) := by decide +kernel
theorem dX9_children_56 : decode cX9_children 56 = .ok (.ireturn, 1) := by decide +kernel
theorem dX9_below_0 : decode cX9_below 0 = .ok (.iconst 0, 1) := by decide +kernel
theorem dX9_below_1 : decode cX9_below 1 = .ok (.istore_n 2, 1) := by decide +kernel
theorem dX9_below_2 : decode cX9_below 2 = .ok (.iconst 1, 1) := by decide +kernel
theorem dX9_below_3 : decode cX9_below 3 = .ok (.istore_n 3, 1) := by decide +kernel
theorem dX9_below_4 : decode cX9_below 4 = .ok (.iload_n 3, 1) := by decide +kernel
theorem dX9_below_5 : decode cX9_below 5 = .ok (.aload_n 0, 1) := by decide +kernel
theorem dX9_below_6 : decode cX9_below 6 = .ok (.getfield 141, 3) := by decide +kernel
theorem dX9_below_9 : decode cX9_below 9 = .ok (.if_icmp .ge 41, 3) := by decide +kernel
theorem dX9_below_12 : decode cX9_below 12 = .ok (.iload_n 2, 1) := by decide +kernel
theorem dX9_below_13 : decode cX9_below 13 = .ok (.iload_n 3, 1) := by decide +kernel
theorem dX9_below_14 : decode cX9_below 14 = .ok (.iload_n 1, 1) := by decide +kernel
theorem dX9_below_15 : decode cX9_below 15 = .ok (.if_icmp .eq 26, 3) := by decide +kernel
theorem dX9_below_18 : decode cX9_below 18 = .ok (.aload_n 0, 1) := by decide +kernel
theorem dX9_below_19 : decode cX9_below 19 = .ok (.getfield 31, 3) := by decide +kernel
theorem dX9_below_22 : decode cX9_below 22 = .ok (.iload_n 3, 1) := by decide +kernel
theorem dX9_below_23 : decode cX9_below 23 = .ok (.iaload, 1) := by decide +kernel
theorem dX9_below_24 : decode cX9_below 24 = .ok (.iconst 1, 1) := by decide +kernel
theorem dX9_below_25 : decode cX9_below 25 = .ok (.if_icmp .ne 16, 3) := by decide +kernel
theorem dX9_below_28 : decode cX9_below 28 = .ok (.aload_n 0, 1) := by decide +kernel
theorem dX9_below_29 : decode cX9_below 29 = .ok (.iload_n 3, 1) := by decide +kernel
theorem dX9_below_30 : decode cX9_below 30 = .ok (.iload_n 1, 1) := by decide +kernel
