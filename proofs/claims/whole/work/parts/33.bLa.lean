theorem dLa_law_16 : decode (mC mLa_law) 16 = .ok (.iconst (0), 1) := by decide +kernel
theorem dLa_law_17 : decode (mC mLa_law) 17 = .ok (.istore_n 3, 1) := by decide +kernel
theorem dLa_law_18 : decode (mC mLa_law) 18 = .ok (.iload_n 3, 1) := by decide +kernel
theorem dLa_law_19 : decode (mC mLa_law) 19 = .ok (.aload_n 0, 1) := by decide +kernel
theorem dLa_law_20 : decode (mC mLa_law) 20 = .ok (.arraylength, 1) := by decide +kernel
theorem dLa_law_21 : decode (mC mLa_law) 21 = .ok (.bipush (6), 2) := by decide +kernel
theorem dLa_law_23 : decode (mC mLa_law) 23 = .ok (.isub, 1) := by decide +kernel
theorem dLa_law_24 : decode (mC mLa_law) 24 = .ok (.if_icmp .gt (1770), 3) := by decide +kernel
theorem dLa_law_27 : decode (mC mLa_law) 27 = .ok (.aload_n 0, 1) := by decide +kernel
theorem dLa_law_28 : decode (mC mLa_law) 28 = .ok (.iload_n 3, 1) := by decide +kernel
theorem dLa_law_29 : decode (mC mLa_law) 29 = .ok (.iaload, 1) := by decide +kernel
theorem dLa_law_30 : decode (mC mLa_law) 30 = .ok (.bipush (63), 2) := by decide +kernel
theorem dLa_law_32 : decode (mC mLa_law) 32 = .ok (.iand, 1) := by decide +kernel
theorem dLa_law_33 : decode (mC mLa_law) 33 = .ok (.tableswitch (1755) 0 46 #[203, 216, 230, 244, 287, 360, 394, 457, 520, 543, 566, 589, 612, 645, 678, 711, 744, 767, 810, 843, 902, 925, 958, 1017, 1066, 1109, 1132, 1145, 1158, 1181, 1204, 1247, 1260, 1303, 1316, 1379, 1422, 1485, 1508, 1531, 1554, 1587, 1630, 1653, 1676, 1729, 1742], 203) := by decide +kernel
theorem dLa_law_236 : decode (mC mLa_law) 236 = .ok (.aload_n 1, 1) := by decide +kernel
theorem dLa_law_237 : decode (mC mLa_law) 237 = .ok (.invokevirtual 13, 3) := by decide +kernel
theorem dLa_law_240 : decode (mC mLa_law) 240 = .ok (.aload_n 2, 1) := by decide +kernel
theorem dLa_law_241 : decode (mC mLa_law) 241 = .ok (.invokevirtual 17, 3) := by decide +kernel
theorem dLa_law_244 : decode (mC mLa_law) 244 = .ok (.if_icmp .eq (1544), 3) := by decide +kernel
theorem dLa_law_247 : decode (mC mLa_law) 247 = .ok (.iconst (0), 1) := by decide +kernel
theorem dLa_law_248 : decode (mC mLa_law) 248 = .ok (.ireturn, 1) := by decide +kernel
theorem dLa_law_249 : decode (mC mLa_law) 249 = .ok (.aload_n 1, 1) := by decide +kernel
theorem dLa_law_250 : decode (mC mLa_law) 250 = .ok (.invokevirtual 18, 3) := by decide +kernel
theorem dLa_law_253 : decode (mC mLa_law) 253 = .ok (.aload_n 2, 1) := by decide +kernel
theorem dLa_law_254 : decode (mC mLa_law) 254 = .ok (.invokevirtual 22, 3) := by decide +kernel
theorem dLa_law_257 : decode (mC mLa_law) 257 = .ok (.lcmp, 1) := by decide +kernel
theorem dLa_law_258 : decode (mC mLa_law) 258 = .ok (.ifCond .eq (1530), 3) := by decide +kernel
theorem dLa_law_261 : decode (mC mLa_law) 261 = .ok (.iconst (0), 1) := by decide +kernel
theorem dLa_law_262 : decode (mC mLa_law) 262 = .ok (.ireturn, 1) := by decide +kernel
theorem dLa_law_263 : decode (mC mLa_law) 263 = .ok (.aload_n 1, 1) := by decide +kernel
theorem dLa_law_264 : decode (mC mLa_law) 264 = .ok (.invokevirtual 23, 3) := by decide +kernel
theorem dLa_law_267 : decode (mC mLa_law) 267 = .ok (.aload_n 2, 1) := by decide +kernel
theorem dLa_law_268 : decode (mC mLa_law) 268 = .ok (.invokevirtual 26, 3) := by decide +kernel
theorem dLa_law_271 : decode (mC mLa_law) 271 = .ok (.lcmp, 1) := by decide +kernel
theorem dLa_law_272 : decode (mC mLa_law) 272 = .ok (.ifCond .eq (1516), 3) := by decide +kernel
theorem dLa_law_275 : decode (mC mLa_law) 275 = .ok (.iconst (0), 1) := by decide +kernel
theorem dLa_law_276 : decode (mC mLa_law) 276 = .ok (.ireturn, 1) := by decide +kernel
theorem dLa_law_277 : decode (mC mLa_law) 277 = .ok (.aload_n 1, 1) := by decide +kernel
theorem dLa_law_278 : decode (mC mLa_law) 278 = .ok (.aload_n 0, 1) := by decide +kernel
theorem dLa_law_279 : decode (mC mLa_law) 279 = .ok (.iload_n 3, 1) := by decide +kernel
theorem dLa_law_280 : decode (mC mLa_law) 280 = .ok (.iconst (1), 1) := by decide +kernel
theorem dLa_law_281 : decode (mC mLa_law) 281 = .ok (.iadd, 1) := by decide +kernel
theorem dLa_law_282 : decode (mC mLa_law) 282 = .ok (.iaload, 1) := by decide +kernel
theorem dLa_law_283 : decode (mC mLa_law) 283 = .ok (.aload_n 0, 1) := by decide +kernel
theorem dLa_law_284 : decode (mC mLa_law) 284 = .ok (.iload_n 3, 1) := by decide +kernel
theorem dLa_law_285 : decode (mC mLa_law) 285 = .ok (.iconst (2), 1) := by decide +kernel
theorem dLa_law_286 : decode (mC mLa_law) 286 = .ok (.iadd, 1) := by decide +kernel
theorem dLa_law_287 : decode (mC mLa_law) 287 = .ok (.iaload, 1) := by decide +kernel
theorem dLa_law_288 : decode (mC mLa_law) 288 = .ok (.aload_n 0, 1) := by decide +kernel
theorem dLa_law_289 : decode (mC mLa_law) 289 = .ok (.iload_n 3, 1) := by decide +kernel
theorem dLa_law_290 : decode (mC mLa_law) 290 = .ok (.iconst (3), 1) := by decide +kernel
theorem dLa_law_291 : decode (mC mLa_law) 291 = .ok (.iadd, 1) := by decide +kernel
theorem dLa_law_292 : decode (mC mLa_law) 292 = .ok (.iaload, 1) := by decide +kernel
theorem dLa_law_293 : decode (mC mLa_law) 293 = .ok (.invokevirtual 27, 3) := by decide +kernel
theorem dLa_law_296 : decode (mC mLa_law) 296 = .ok (.aload_n 2, 1) := by decide +kernel
theorem dLa_law_297 : decode (mC mLa_law) 297 = .ok (.aload_n 0, 1) := by decide +kernel
theorem dLa_law_298 : decode (mC mLa_law) 298 = .ok (.iload_n 3, 1) := by decide +kernel
theorem dLa_law_299 : decode (mC mLa_law) 299 = .ok (.iconst (1), 1) := by decide +kernel
theorem dLa_law_300 : decode (mC mLa_law) 300 = .ok (.iadd, 1) := by decide +kernel
theorem dLa_law_301 : decode (mC mLa_law) 301 = .ok (.iaload, 1) := by decide +kernel
theorem dLa_law_302 : decode (mC mLa_law) 302 = .ok (.aload_n 0, 1) := by decide +kernel
theorem dLa_law_303 : decode (mC mLa_law) 303 = .ok (.iload_n 3, 1) := by decide +kernel
theorem dLa_law_304 : decode (mC mLa_law) 304 = .ok (.iconst (2), 1) := by decide +kernel
theorem dLa_law_305 : decode (mC mLa_law) 305 = .ok (.iadd, 1) := by decide +kernel
theorem dLa_law_306 : decode (mC mLa_law) 306 = .ok (.iaload, 1) := by decide +kernel
theorem dLa_law_307 : decode (mC mLa_law) 307 = .ok (.aload_n 0, 1) := by decide +kernel
theorem dLa_law_308 : decode (mC mLa_law) 308 = .ok (.iload_n 3, 1) := by decide +kernel
theorem dLa_law_309 : decode (mC mLa_law) 309 = .ok (.iconst (3), 1) := by decide +kernel
theorem dLa_law_310 : decode (mC mLa_law) 310 = .ok (.iadd, 1) := by decide +kernel
theorem dLa_law_311 : decode (mC mLa_law) 311 = .ok (.iaload, 1) := by decide +kernel
theorem dLa_law_312 : decode (mC mLa_law) 312 = .ok (.invokevirtual 31, 3) := by decide +kernel
theorem dLa_law_315 : decode (mC mLa_law) 315 = .ok (.if_icmp .eq (1473), 3) := by decide +kernel
theorem dLa_law_318 : decode (mC mLa_law) 318 = .ok (.iconst (0), 1) := by decide +kernel
theorem dLa_law_319 : decode (mC mLa_law) 319 = .ok (.ireturn, 1) := by decide +kernel
theorem dLa_law_320 : decode (mC mLa_law) 320 = .ok (.aload_n 1, 1) := by decide +kernel
theorem dLa_law_321 : decode (mC mLa_law) 321 = .ok (.aload_n 0, 1) := by decide +kernel
theorem dLa_law_322 : decode (mC mLa_law) 322 = .ok (.iload_n 3, 1) := by decide +kernel
theorem dLa_law_323 : decode (mC mLa_law) 323 = .ok (.iconst (1), 1) := by decide +kernel
theorem dLa_law_324 : decode (mC mLa_law) 324 = .ok (.iadd, 1) := by decide +kernel
theorem dLa_law_325 : decode (mC mLa_law) 325 = .ok (.iaload, 1) := by decide +kernel
theorem dLa_law_326 : decode (mC mLa_law) 326 = .ok (.aload_n 0, 1) := by decide +kernel
theorem dLa_law_327 : decode (mC mLa_law) 327 = .ok (.iload_n 3, 1) := by decide +kernel
theorem dLa_law_328 : decode (mC mLa_law) 328 = .ok (.iconst (2), 1) := by decide +kernel
theorem dLa_law_329 : decode (mC mLa_law) 329 = .ok (.iadd, 1) := by decide +kernel
theorem dLa_law_330 : decode (mC mLa_law) 330 = .ok (.iaload, 1) := by decide +kernel
theorem dLa_law_331 : decode (mC mLa_law) 331 = .ok (.aload_n 0, 1) := by decide +kernel
theorem dLa_law_332 : decode (mC mLa_law) 332 = .ok (.iload_n 3, 1) := by decide +kernel
theorem dLa_law_333 : decode (mC mLa_law) 333 = .ok (.iconst (3), 1) := by decide +kernel
theorem dLa_law_334 : decode (mC mLa_law) 334 = .ok (.iadd, 1) := by decide +kernel
theorem dLa_law_335 : decode (mC mLa_law) 335 = .ok (.iaload, 1) := by decide +kernel
theorem dLa_law_336 : decode (mC mLa_law) 336 = .ok (.i2l, 1) := by decide +kernel
theorem dLa_law_337 : decode (mC mLa_law) 337 = .ok (.bipush (32), 2) := by decide +kernel
theorem dLa_law_339 : decode (mC mLa_law) 339 = .ok (.lshl, 1) := by decide +kernel
theorem dLa_law_340 : decode (mC mLa_law) 340 = .ok (.aload_n 0, 1) := by decide +kernel
theorem dLa_law_341 : decode (mC mLa_law) 341 = .ok (.iload_n 3, 1) := by decide +kernel
theorem dLa_law_342 : decode (mC mLa_law) 342 = .ok (.iconst (4), 1) := by decide +kernel
theorem dLa_law_343 : decode (mC mLa_law) 343 = .ok (.iadd, 1) := by decide +kernel
theorem dLa_law_344 : decode (mC mLa_law) 344 = .ok (.iaload, 1) := by decide +kernel
theorem dLa_law_345 : decode (mC mLa_law) 345 = .ok (.i2l, 1) := by decide +kernel
theorem dLa_law_346 : decode (mC mLa_law) 346 = .ok (.ldc2_w 32, 3) := by decide +kernel
theorem dLa_law_349 : decode (mC mLa_law) 349 = .ok (.land, 1) := by decide +kernel
theorem dLa_law_350 : decode (mC mLa_law) 350 = .ok (.lor, 1) := by decide +kernel
theorem dLa_law_351 : decode (mC mLa_law) 351 = .ok (.invokevirtual 34, 3) := by decide +kernel
theorem dLa_law_354 : decode (mC mLa_law) 354 = .ok (.aload_n 2, 1) := by decide +kernel
theorem dLa_law_355 : decode (mC mLa_law) 355 = .ok (.aload_n 0, 1) := by decide +kernel
theorem dLa_law_356 : decode (mC mLa_law) 356 = .ok (.iload_n 3, 1) := by decide +kernel
theorem dLa_law_357 : decode (mC mLa_law) 357 = .ok (.iconst (1), 1) := by decide +kernel
theorem dLa_law_358 : decode (mC mLa_law) 358 = .ok (.iadd, 1) := by decide +kernel
theorem dLa_law_359 : decode (mC mLa_law) 359 = .ok (.iaload, 1) := by decide +kernel
theorem dLa_law_360 : decode (mC mLa_law) 360 = .ok (.aload_n 0, 1) := by decide +kernel
theorem dLa_law_361 : decode (mC mLa_law) 361 = .ok (.iload_n 3, 1) := by decide +kernel
theorem dLa_law_362 : decode (mC mLa_law) 362 = .ok (.iconst (2), 1) := by decide +kernel
theorem dLa_law_363 : decode (mC mLa_law) 363 = .ok (.iadd, 1) := by decide +kernel
theorem dLa_law_364 : decode (mC mLa_law) 364 = .ok (.iaload, 1) := by decide +kernel
theorem dLa_law_365 : decode (mC mLa_law) 365 = .ok (.aload_n 0, 1) := by decide +kernel
theorem dLa_law_366 : decode (mC mLa_law) 366 = .ok (.iload_n 3, 1) := by decide +kernel
theorem dLa_law_367 : decode (mC mLa_law) 367 = .ok (.iconst (3), 1) := by decide +kernel
theorem dLa_law_368 : decode (mC mLa_law) 368 = .ok (.iadd, 1) := by decide +kernel
theorem dLa_law_369 : decode (mC mLa_law) 369 = .ok (.iaload, 1) := by decide +kernel
theorem dLa_law_370 : decode (mC mLa_law) 370 = .ok (.i2l, 1) := by decide +kernel
theorem dLa_law_371 : decode (mC mLa_law) 371 = .ok (.bipush (32), 2) := by decide +kernel
theorem dLa_law_373 : decode (mC mLa_law) 373 = .ok (.lshl, 1) := by decide +kernel
theorem dLa_law_374 : decode (mC mLa_law) 374 = .ok (.aload_n 0, 1) := by decide +kernel
theorem dLa_law_375 : decode (mC mLa_law) 375 = .ok (.iload_n 3, 1) := by decide +kernel
theorem dLa_law_376 : decode (mC mLa_law) 376 = .ok (.iconst (4), 1) := by decide +kernel
theorem dLa_law_377 : decode (mC mLa_law) 377 = .ok (.iadd, 1) := by decide +kernel
theorem dLa_law_378 : decode (mC mLa_law) 378 = .ok (.iaload, 1) := by decide +kernel
theorem dLa_law_379 : decode (mC mLa_law) 379 = .ok (.i2l, 1) := by decide +kernel
theorem dLa_law_380 : decode (mC mLa_law) 380 = .ok (.ldc2_w 32, 3) := by decide +kernel
theorem dLa_law_383 : decode (mC mLa_law) 383 = .ok (.land, 1) := by decide +kernel
theorem dLa_law_384 : decode (mC mLa_law) 384 = .ok (.lor, 1) := by decide +kernel
theorem dLa_law_385 : decode (mC mLa_law) 385 = .ok (.invokevirtual 38, 3) := by decide +kernel
theorem dLa_law_388 : decode (mC mLa_law) 388 = .ok (.if_icmp .eq (1400), 3) := by decide +kernel
theorem dLa_law_391 : decode (mC mLa_law) 391 = .ok (.iconst (0), 1) := by decide +kernel
theorem dLa_law_392 : decode (mC mLa_law) 392 = .ok (.ireturn, 1) := by decide +kernel
theorem dLa_law_393 : decode (mC mLa_law) 393 = .ok (.aload_n 1, 1) := by decide +kernel
theorem dLa_law_394 : decode (mC mLa_law) 394 = .ok (.aload_n 0, 1) := by decide +kernel
theorem dLa_law_395 : decode (mC mLa_law) 395 = .ok (.iload_n 3, 1) := by decide +kernel
theorem dLa_law_396 : decode (mC mLa_law) 396 = .ok (.iconst (1), 1) := by decide +kernel
theorem dLa_law_397 : decode (mC mLa_law) 397 = .ok (.iadd, 1) := by decide +kernel
theorem dLa_law_398 : decode (mC mLa_law) 398 = .ok (.iaload, 1) := by decide +kernel
theorem dLa_law_399 : decode (mC mLa_law) 399 = .ok (.aload_n 0, 1) := by decide +kernel
theorem dLa_law_400 : decode (mC mLa_law) 400 = .ok (.iload_n 3, 1) := by decide +kernel
theorem dLa_law_401 : decode (mC mLa_law) 401 = .ok (.iconst (2), 1) := by decide +kernel
theorem dLa_law_402 : decode (mC mLa_law) 402 = .ok (.iadd, 1) := by decide +kernel
theorem dLa_law_403 : decode (mC mLa_law) 403 = .ok (.iaload, 1) := by decide +kernel
theorem dLa_law_404 : decode (mC mLa_law) 404 = .ok (.invokevirtual 39, 3) := by decide +kernel
theorem dLa_law_407 : decode (mC mLa_law) 407 = .ok (.aload_n 2, 1) := by decide +kernel
theorem dLa_law_408 : decode (mC mLa_law) 408 = .ok (.aload_n 0, 1) := by decide +kernel
theorem dLa_law_409 : decode (mC mLa_law) 409 = .ok (.iload_n 3, 1) := by decide +kernel
theorem dLa_law_410 : decode (mC mLa_law) 410 = .ok (.iconst (1), 1) := by decide +kernel
theorem dLa_law_411 : decode (mC mLa_law) 411 = .ok (.iadd, 1) := by decide +kernel
theorem dLa_law_412 : decode (mC mLa_law) 412 = .ok (.iaload, 1) := by decide +kernel
theorem dLa_law_413 : decode (mC mLa_law) 413 = .ok (.aload_n 0, 1) := by decide +kernel
theorem dLa_law_414 : decode (mC mLa_law) 414 = .ok (.iload_n 3, 1) := by decide +kernel
theorem dLa_law_415 : decode (mC mLa_law) 415 = .ok (.iconst (2), 1) := by decide +kernel
theorem dLa_law_416 : decode (mC mLa_law) 416 = .ok (.iadd, 1) := by decide +kernel
theorem dLa_law_417 : decode (mC mLa_law) 417 = .ok (.iaload, 1) := by decide +kernel
theorem dLa_law_418 : decode (mC mLa_law) 418 = .ok (.invokevirtual 43, 3) := by decide +kernel
theorem dLa_law_421 : decode (mC mLa_law) 421 = .ok (.lcmp, 1) := by decide +kernel
theorem dLa_law_422 : decode (mC mLa_law) 422 = .ok (.ifCond .eq (1366), 3) := by decide +kernel
theorem dLa_law_425 : decode (mC mLa_law) 425 = .ok (.iconst (0), 1) := by decide +kernel
theorem dLa_law_426 : decode (mC mLa_law) 426 = .ok (.ireturn, 1) := by decide +kernel
theorem dLa_law_427 : decode (mC mLa_law) 427 = .ok (.aload_n 1, 1) := by decide +kernel
theorem dLa_law_428 : decode (mC mLa_law) 428 = .ok (.aload_n 0, 1) := by decide +kernel
theorem dLa_law_429 : decode (mC mLa_law) 429 = .ok (.iload_n 3, 1) := by decide +kernel
theorem dLa_law_430 : decode (mC mLa_law) 430 = .ok (.iconst (1), 1) := by decide +kernel
theorem dLa_law_431 : decode (mC mLa_law) 431 = .ok (.iadd, 1) := by decide +kernel
theorem dLa_law_432 : decode (mC mLa_law) 432 = .ok (.iaload, 1) := by decide +kernel
theorem dLa_law_433 : decode (mC mLa_law) 433 = .ok (.aload_n 0, 1) := by decide +kernel
theorem dLa_law_434 : decode (mC mLa_law) 434 = .ok (.iload_n 3, 1) := by decide +kernel
theorem dLa_law_435 : decode (mC mLa_law) 435 = .ok (.iconst (2), 1) := by decide +kernel
theorem dLa_law_436 : decode (mC mLa_law) 436 = .ok (.iadd, 1) := by decide +kernel
theorem dLa_law_437 : decode (mC mLa_law) 437 = .ok (.iaload, 1) := by decide +kernel
theorem dLa_law_438 : decode (mC mLa_law) 438 = .ok (.aload_n 0, 1) := by decide +kernel
theorem dLa_law_439 : decode (mC mLa_law) 439 = .ok (.iload_n 3, 1) := by decide +kernel
theorem dLa_law_440 : decode (mC mLa_law) 440 = .ok (.iconst (3), 1) := by decide +kernel
theorem dLa_law_441 : decode (mC mLa_law) 441 = .ok (.iadd, 1) := by decide +kernel
theorem dLa_law_442 : decode (mC mLa_law) 442 = .ok (.iaload, 1) := by decide +kernel
theorem dLa_law_443 : decode (mC mLa_law) 443 = .ok (.aload_n 0, 1) := by decide +kernel
theorem dLa_law_444 : decode (mC mLa_law) 444 = .ok (.iload_n 3, 1) := by decide +kernel
theorem dLa_law_445 : decode (mC mLa_law) 445 = .ok (.iconst (4), 1) := by decide +kernel
theorem dLa_law_446 : decode (mC mLa_law) 446 = .ok (.iadd, 1) := by decide +kernel
theorem dLa_law_447 : decode (mC mLa_law) 447 = .ok (.iaload, 1) := by decide +kernel
theorem dLa_law_448 : decode (mC mLa_law) 448 = .ok (.aload_n 0, 1) := by decide +kernel
theorem dLa_law_449 : decode (mC mLa_law) 449 = .ok (.iload_n 3, 1) := by decide +kernel
theorem dLa_law_450 : decode (mC mLa_law) 450 = .ok (.iconst (5), 1) := by decide +kernel
theorem dLa_law_451 : decode (mC mLa_law) 451 = .ok (.iadd, 1) := by decide +kernel
theorem dLa_law_452 : decode (mC mLa_law) 452 = .ok (.iaload, 1) := by decide +kernel
theorem dLa_law_453 : decode (mC mLa_law) 453 = .ok (.invokevirtual 44, 3) := by decide +kernel
theorem dLa_law_456 : decode (mC mLa_law) 456 = .ok (.aload_n 2, 1) := by decide +kernel
theorem dLa_law_457 : decode (mC mLa_law) 457 = .ok (.aload_n 0, 1) := by decide +kernel
theorem dLa_law_458 : decode (mC mLa_law) 458 = .ok (.iload_n 3, 1) := by decide +kernel
theorem dLa_law_459 : decode (mC mLa_law) 459 = .ok (.iconst (1), 1) := by decide +kernel
theorem dLa_law_460 : decode (mC mLa_law) 460 = .ok (.iadd, 1) := by decide +kernel
theorem dLa_law_461 : decode (mC mLa_law) 461 = .ok (.iaload, 1) := by decide +kernel
theorem dLa_law_462 : decode (mC mLa_law) 462 = .ok (.aload_n 0, 1) := by decide +kernel
theorem dLa_law_463 : decode (mC mLa_law) 463 = .ok (.iload_n 3, 1) := by decide +kernel
theorem dLa_law_464 : decode (mC mLa_law) 464 = .ok (.iconst (2), 1) := by decide +kernel
theorem dLa_law_465 : decode (mC mLa_law) 465 = .ok (.iadd, 1) := by decide +kernel
theorem dLa_law_466 : decode (mC mLa_law) 466 = .ok (.iaload, 1) := by decide +kernel
theorem dLa_law_467 : decode (mC mLa_law) 467 = .ok (.aload_n 0, 1) := by decide +kernel
theorem dLa_law_468 : decode (mC mLa_law) 468 = .ok (.iload_n 3, 1) := by decide +kernel
theorem dLa_law_469 : decode (mC mLa_law) 469 = .ok (.iconst (3), 1) := by decide +kernel
theorem dLa_law_470 : decode (mC mLa_law) 470 = .ok (.iadd, 1) := by decide +kernel
theorem dLa_law_471 : decode (mC mLa_law) 471 = .ok (.iaload, 1) := by decide +kernel
theorem dLa_law_472 : decode (mC mLa_law) 472 = .ok (.aload_n 0, 1) := by decide +kernel
theorem dLa_law_473 : decode (mC mLa_law) 473 = .ok (.iload_n 3, 1) := by decide +kernel
theorem dLa_law_474 : decode (mC mLa_law) 474 = .ok (.iconst (4), 1) := by decide +kernel
theorem dLa_law_475 : decode (mC mLa_law) 475 = .ok (.iadd, 1) := by decide +kernel
theorem dLa_law_476 : decode (mC mLa_law) 476 = .ok (.iaload, 1) := by decide +kernel
theorem dLa_law_477 : decode (mC mLa_law) 477 = .ok (.aload_n 0, 1) := by decide +kernel
theorem dLa_law_478 : decode (mC mLa_law) 478 = .ok (.iload_n 3, 1) := by decide +kernel
theorem dLa_law_479 : decode (mC mLa_law) 479 = .ok (.iconst (5), 1) := by decide +kernel
theorem dLa_law_480 : decode (mC mLa_law) 480 = .ok (.iadd, 1) := by decide +kernel
theorem dLa_law_481 : decode (mC mLa_law) 481 = .ok (.iaload, 1) := by decide +kernel
theorem dLa_law_482 : decode (mC mLa_law) 482 = .ok (.invokevirtual 48, 3) := by decide +kernel
theorem dLa_law_485 : decode (mC mLa_law) 485 = .ok (.if_icmp .eq (1303), 3) := by decide +kernel
theorem dLa_law_488 : decode (mC mLa_law) 488 = .ok (.iconst (0), 1) := by decide +kernel
theorem dLa_law_489 : decode (mC mLa_law) 489 = .ok (.ireturn, 1) := by decide +kernel
theorem dLa_law_490 : decode (mC mLa_law) 490 = .ok (.aload_n 1, 1) := by decide +kernel
theorem dLa_law_491 : decode (mC mLa_law) 491 = .ok (.aload_n 0, 1) := by decide +kernel
theorem dLa_law_492 : decode (mC mLa_law) 492 = .ok (.iload_n 3, 1) := by decide +kernel
theorem dLa_law_493 : decode (mC mLa_law) 493 = .ok (.iconst (1), 1) := by decide +kernel
theorem dLa_law_494 : decode (mC mLa_law) 494 = .ok (.iadd, 1) := by decide +kernel
theorem dLa_law_495 : decode (mC mLa_law) 495 = .ok (.iaload, 1) := by decide +kernel
theorem dLa_law_496 : decode (mC mLa_law) 496 = .ok (.aload_n 0, 1) := by decide +kernel
theorem dLa_law_497 : decode (mC mLa_law) 497 = .ok (.iload_n 3, 1) := by decide +kernel
theorem dLa_law_498 : decode (mC mLa_law) 498 = .ok (.iconst (2), 1) := by decide +kernel
theorem dLa_law_499 : decode (mC mLa_law) 499 = .ok (.iadd, 1) := by decide +kernel
theorem dLa_law_500 : decode (mC mLa_law) 500 = .ok (.iaload, 1) := by decide +kernel
theorem dLa_law_501 : decode (mC mLa_law) 501 = .ok (.aload_n 0, 1) := by decide +kernel
theorem dLa_law_502 : decode (mC mLa_law) 502 = .ok (.iload_n 3, 1) := by decide +kernel
theorem dLa_law_503 : decode (mC mLa_law) 503 = .ok (.iconst (3), 1) := by decide +kernel
theorem dLa_law_504 : decode (mC mLa_law) 504 = .ok (.iadd, 1) := by decide +kernel
theorem dLa_law_505 : decode (mC mLa_law) 505 = .ok (.iaload, 1) := by decide +kernel
theorem dLa_law_506 : decode (mC mLa_law) 506 = .ok (.aload_n 0, 1) := by decide +kernel
theorem dLa_law_507 : decode (mC mLa_law) 507 = .ok (.iload_n 3, 1) := by decide +kernel
theorem dLa_law_508 : decode (mC mLa_law) 508 = .ok (.iconst (4), 1) := by decide +kernel
theorem dLa_law_509 : decode (mC mLa_law) 509 = .ok (.iadd, 1) := by decide +kernel
theorem dLa_law_510 : decode (mC mLa_law) 510 = .ok (.iaload, 1) := by decide +kernel
theorem dLa_law_511 : decode (mC mLa_law) 511 = .ok (.aload_n 0, 1) := by decide +kernel
theorem dLa_law_512 : decode (mC mLa_law) 512 = .ok (.iload_n 3, 1) := by decide +kernel
theorem dLa_law_513 : decode (mC mLa_law) 513 = .ok (.iconst (5), 1) := by decide +kernel
theorem dLa_law_514 : decode (mC mLa_law) 514 = .ok (.iadd, 1) := by decide +kernel
theorem dLa_law_515 : decode (mC mLa_law) 515 = .ok (.iaload, 1) := by decide +kernel
theorem dLa_law_516 : decode (mC mLa_law) 516 = .ok (.invokevirtual 49, 3) := by decide +kernel
theorem dLa_law_519 : decode (mC mLa_law) 519 = .ok (.aload_n 2, 1) := by decide +kernel
theorem dLa_law_520 : decode (mC mLa_law) 520 = .ok (.aload_n 0, 1) := by decide +kernel
theorem dLa_law_521 : decode (mC mLa_law) 521 = .ok (.iload_n 3, 1) := by decide +kernel
theorem dLa_law_522 : decode (mC mLa_law) 522 = .ok (.iconst (1), 1) := by decide +kernel
theorem dLa_law_523 : decode (mC mLa_law) 523 = .ok (.iadd, 1) := by decide +kernel
theorem dLa_law_524 : decode (mC mLa_law) 524 = .ok (.iaload, 1) := by decide +kernel
theorem dLa_law_525 : decode (mC mLa_law) 525 = .ok (.aload_n 0, 1) := by decide +kernel
theorem dLa_law_526 : decode (mC mLa_law) 526 = .ok (.iload_n 3, 1) := by decide +kernel
theorem dLa_law_527 : decode (mC mLa_law) 527 = .ok (.iconst (2), 1) := by decide +kernel
theorem dLa_law_528 : decode (mC mLa_law) 528 = .ok (.iadd, 1) := by decide +kernel
theorem dLa_law_529 : decode (mC mLa_law) 529 = .ok (.iaload, 1) := by decide +kernel
theorem dLa_law_530 : decode (mC mLa_law) 530 = .ok (.aload_n 0, 1) := by decide +kernel
theorem dLa_law_531 : decode (mC mLa_law) 531 = .ok (.iload_n 3, 1) := by decide +kernel
theorem dLa_law_532 : decode (mC mLa_law) 532 = .ok (.iconst (3), 1) := by decide +kernel
theorem dLa_law_533 : decode (mC mLa_law) 533 = .ok (.iadd, 1) := by decide +kernel
theorem dLa_law_534 : decode (mC mLa_law) 534 = .ok (.iaload, 1) := by decide +kernel
theorem dLa_law_535 : decode (mC mLa_law) 535 = .ok (.aload_n 0, 1) := by decide +kernel
theorem dLa_law_536 : decode (mC mLa_law) 536 = .ok (.iload_n 3, 1) := by decide +kernel
theorem dLa_law_537 : decode (mC mLa_law) 537 = .ok (.iconst (4), 1) := by decide +kernel
theorem dLa_law_538 : decode (mC mLa_law) 538 = .ok (.iadd, 1) := by decide +kernel
theorem dLa_law_539 : decode (mC mLa_law) 539 = .ok (.iaload, 1) := by decide +kernel
theorem dLa_law_540 : decode (mC mLa_law) 540 = .ok (.aload_n 0, 1) := by decide +kernel
theorem dLa_law_541 : decode (mC mLa_law) 541 = .ok (.iload_n 3, 1) := by decide +kernel
theorem dLa_law_542 : decode (mC mLa_law) 542 = .ok (.iconst (5), 1) := by decide +kernel
theorem dLa_law_543 : decode (mC mLa_law) 543 = .ok (.iadd, 1) := by decide +kernel
theorem dLa_law_544 : decode (mC mLa_law) 544 = .ok (.iaload, 1) := by decide +kernel
theorem dLa_law_545 : decode (mC mLa_law) 545 = .ok (.invokevirtual 53, 3) := by decide +kernel
theorem dLa_law_548 : decode (mC mLa_law) 548 = .ok (.if_icmp .eq (1240), 3) := by decide +kernel
theorem dLa_law_551 : decode (mC mLa_law) 551 = .ok (.iconst (0), 1) := by decide +kernel
theorem dLa_law_552 : decode (mC mLa_law) 552 = .ok (.ireturn, 1) := by decide +kernel
theorem dLa_law_553 : decode (mC mLa_law) 553 = .ok (.aload_n 1, 1) := by decide +kernel
theorem dLa_law_554 : decode (mC mLa_law) 554 = .ok (.aload_n 0, 1) := by decide +kernel
theorem dLa_law_555 : decode (mC mLa_law) 555 = .ok (.iload_n 3, 1) := by decide +kernel
theorem dLa_law_556 : decode (mC mLa_law) 556 = .ok (.iconst (1), 1) := by decide +kernel
theorem dLa_law_557 : decode (mC mLa_law) 557 = .ok (.iadd, 1) := by decide +kernel
theorem dLa_law_558 : decode (mC mLa_law) 558 = .ok (.iaload, 1) := by decide +kernel
theorem dLa_law_559 : decode (mC mLa_law) 559 = .ok (.invokevirtual 54, 3) := by decide +kernel
theorem dLa_law_562 : decode (mC mLa_law) 562 = .ok (.aload_n 2, 1) := by decide +kernel
theorem dLa_law_563 : decode (mC mLa_law) 563 = .ok (.aload_n 0, 1) := by decide +kernel
theorem dLa_law_564 : decode (mC mLa_law) 564 = .ok (.iload_n 3, 1) := by decide +kernel
theorem dLa_law_565 : decode (mC mLa_law) 565 = .ok (.iconst (1), 1) := by decide +kernel
theorem dLa_law_566 : decode (mC mLa_law) 566 = .ok (.iadd, 1) := by decide +kernel
theorem dLa_law_567 : decode (mC mLa_law) 567 = .ok (.iaload, 1) := by decide +kernel
theorem dLa_law_568 : decode (mC mLa_law) 568 = .ok (.invokevirtual 58, 3) := by decide +kernel
theorem dLa_law_571 : decode (mC mLa_law) 571 = .ok (.if_icmp .eq (1217), 3) := by decide +kernel
theorem dLa_law_574 : decode (mC mLa_law) 574 = .ok (.iconst (0), 1) := by decide +kernel
theorem dLa_law_575 : decode (mC mLa_law) 575 = .ok (.ireturn, 1) := by decide +kernel
theorem dLa_law_576 : decode (mC mLa_law) 576 = .ok (.aload_n 1, 1) := by decide +kernel
theorem dLa_law_577 : decode (mC mLa_law) 577 = .ok (.aload_n 0, 1) := by decide +kernel
theorem dLa_law_578 : decode (mC mLa_law) 578 = .ok (.iload_n 3, 1) := by decide +kernel
theorem dLa_law_579 : decode (mC mLa_law) 579 = .ok (.iconst (1), 1) := by decide +kernel
theorem dLa_law_580 : decode (mC mLa_law) 580 = .ok (.iadd, 1) := by decide +kernel
theorem dLa_law_581 : decode (mC mLa_law) 581 = .ok (.iaload, 1) := by decide +kernel
theorem dLa_law_582 : decode (mC mLa_law) 582 = .ok (.invokevirtual 59, 3) := by decide +kernel
theorem dLa_law_585 : decode (mC mLa_law) 585 = .ok (.aload_n 2, 1) := by decide +kernel
theorem dLa_law_586 : decode (mC mLa_law) 586 = .ok (.aload_n 0, 1) := by decide +kernel
theorem dLa_law_587 : decode (mC mLa_law) 587 = .ok (.iload_n 3, 1) := by decide +kernel
theorem dLa_law_588 : decode (mC mLa_law) 588 = .ok (.iconst (1), 1) := by decide +kernel
theorem dLa_law_589 : decode (mC mLa_law) 589 = .ok (.iadd, 1) := by decide +kernel
theorem dLa_law_590 : decode (mC mLa_law) 590 = .ok (.iaload, 1) := by decide +kernel
theorem dLa_law_591 : decode (mC mLa_law) 591 = .ok (.invokevirtual 62, 3) := by decide +kernel
theorem dLa_law_594 : decode (mC mLa_law) 594 = .ok (.if_icmp .eq (1194), 3) := by decide +kernel
theorem dLa_law_597 : decode (mC mLa_law) 597 = .ok (.iconst (0), 1) := by decide +kernel
theorem dLa_law_598 : decode (mC mLa_law) 598 = .ok (.ireturn, 1) := by decide +kernel
theorem dLa_law_599 : decode (mC mLa_law) 599 = .ok (.aload_n 1, 1) := by decide +kernel
theorem dLa_law_600 : decode (mC mLa_law) 600 = .ok (.aload_n 0, 1) := by decide +kernel
theorem dLa_law_601 : decode (mC mLa_law) 601 = .ok (.iload_n 3, 1) := by decide +kernel
theorem dLa_law_602 : decode (mC mLa_law) 602 = .ok (.iconst (1), 1) := by decide +kernel
theorem dLa_law_603 : decode (mC mLa_law) 603 = .ok (.iadd, 1) := by decide +kernel
theorem dLa_law_604 : decode (mC mLa_law) 604 = .ok (.iaload, 1) := by decide +kernel
theorem dLa_law_605 : decode (mC mLa_law) 605 = .ok (.invokevirtual 63, 3) := by decide +kernel
theorem dLa_law_608 : decode (mC mLa_law) 608 = .ok (.aload_n 2, 1) := by decide +kernel
theorem dLa_law_609 : decode (mC mLa_law) 609 = .ok (.aload_n 0, 1) := by decide +kernel
theorem dLa_law_610 : decode (mC mLa_law) 610 = .ok (.iload_n 3, 1) := by decide +kernel
theorem dLa_law_611 : decode (mC mLa_law) 611 = .ok (.iconst (1), 1) := by decide +kernel
theorem dLa_law_612 : decode (mC mLa_law) 612 = .ok (.iadd, 1) := by decide +kernel
theorem dLa_law_613 : decode (mC mLa_law) 613 = .ok (.iaload, 1) := by decide +kernel
theorem dLa_law_614 : decode (mC mLa_law) 614 = .ok (.invokevirtual 66, 3) := by decide +kernel
theorem dLa_law_617 : decode (mC mLa_law) 617 = .ok (.if_icmp .eq (1171), 3) := by decide +kernel
theorem dLa_law_620 : decode (mC mLa_law) 620 = .ok (.iconst (0), 1) := by decide +kernel
theorem dLa_law_621 : decode (mC mLa_law) 621 = .ok (.ireturn, 1) := by decide +kernel
theorem dLa_law_622 : decode (mC mLa_law) 622 = .ok (.aload_n 1, 1) := by decide +kernel
theorem dLa_law_623 : decode (mC mLa_law) 623 = .ok (.aload_n 0, 1) := by decide +kernel
theorem dLa_law_624 : decode (mC mLa_law) 624 = .ok (.iload_n 3, 1) := by decide +kernel
theorem dLa_law_625 : decode (mC mLa_law) 625 = .ok (.iconst (1), 1) := by decide +kernel
theorem dLa_law_626 : decode (mC mLa_law) 626 = .ok (.iadd, 1) := by decide +kernel
theorem dLa_law_627 : decode (mC mLa_law) 627 = .ok (.iaload, 1) := by decide +kernel
theorem dLa_law_628 : decode (mC mLa_law) 628 = .ok (.invokevirtual 67, 3) := by decide +kernel
theorem dLa_law_631 : decode (mC mLa_law) 631 = .ok (.aload_n 2, 1) := by decide +kernel
theorem dLa_law_632 : decode (mC mLa_law) 632 = .ok (.aload_n 0, 1) := by decide +kernel
theorem dLa_law_633 : decode (mC mLa_law) 633 = .ok (.iload_n 3, 1) := by decide +kernel
theorem dLa_law_634 : decode (mC mLa_law) 634 = .ok (.iconst (1), 1) := by decide +kernel
theorem dLa_law_635 : decode (mC mLa_law) 635 = .ok (.iadd, 1) := by decide +kernel
theorem dLa_law_636 : decode (mC mLa_law) 636 = .ok (.iaload, 1) := by decide +kernel
theorem dLa_law_637 : decode (mC mLa_law) 637 = .ok (.invokevirtual 70, 3) := by decide +kernel
theorem dLa_law_640 : decode (mC mLa_law) 640 = .ok (.if_icmp .eq (1148), 3) := by decide +kernel
theorem dLa_law_643 : decode (mC mLa_law) 643 = .ok (.iconst (0), 1) := by decide +kernel
theorem dLa_law_644 : decode (mC mLa_law) 644 = .ok (.ireturn, 1) := by decide +kernel
theorem dLa_law_645 : decode (mC mLa_law) 645 = .ok (.aload_n 1, 1) := by decide +kernel
theorem dLa_law_646 : decode (mC mLa_law) 646 = .ok (.aload_n 0, 1) := by decide +kernel
theorem dLa_law_647 : decode (mC mLa_law) 647 = .ok (.iload_n 3, 1) := by decide +kernel
theorem dLa_law_648 : decode (mC mLa_law) 648 = .ok (.iconst (1), 1) := by decide +kernel
theorem dLa_law_649 : decode (mC mLa_law) 649 = .ok (.iadd, 1) := by decide +kernel
theorem dLa_law_650 : decode (mC mLa_law) 650 = .ok (.iaload, 1) := by decide +kernel
theorem dLa_law_651 : decode (mC mLa_law) 651 = .ok (.aload_n 0, 1) := by decide +kernel
theorem dLa_law_652 : decode (mC mLa_law) 652 = .ok (.iload_n 3, 1) := by decide +kernel
theorem dLa_law_653 : decode (mC mLa_law) 653 = .ok (.iconst (2), 1) := by decide +kernel
theorem dLa_law_654 : decode (mC mLa_law) 654 = .ok (.iadd, 1) := by decide +kernel
theorem dLa_law_655 : decode (mC mLa_law) 655 = .ok (.iaload, 1) := by decide +kernel
theorem dLa_law_656 : decode (mC mLa_law) 656 = .ok (.invokevirtual 71, 3) := by decide +kernel
theorem dLa_law_659 : decode (mC mLa_law) 659 = .ok (.aload_n 2, 1) := by decide +kernel
theorem dLa_law_660 : decode (mC mLa_law) 660 = .ok (.aload_n 0, 1) := by decide +kernel
theorem dLa_law_661 : decode (mC mLa_law) 661 = .ok (.iload_n 3, 1) := by decide +kernel
theorem dLa_law_662 : decode (mC mLa_law) 662 = .ok (.iconst (1), 1) := by decide +kernel
theorem dLa_law_663 : decode (mC mLa_law) 663 = .ok (.iadd, 1) := by decide +kernel
theorem dLa_law_664 : decode (mC mLa_law) 664 = .ok (.iaload, 1) := by decide +kernel
theorem dLa_law_665 : decode (mC mLa_law) 665 = .ok (.aload_n 0, 1) := by decide +kernel
theorem dLa_law_666 : decode (mC mLa_law) 666 = .ok (.iload_n 3, 1) := by decide +kernel
theorem dLa_law_667 : decode (mC mLa_law) 667 = .ok (.iconst (2), 1) := by decide +kernel
theorem dLa_law_668 : decode (mC mLa_law) 668 = .ok (.iadd, 1) := by decide +kernel
theorem dLa_law_669 : decode (mC mLa_law) 669 = .ok (.iaload, 1) := by decide +kernel
theorem dLa_law_670 : decode (mC mLa_law) 670 = .ok (.invokevirtual 75, 3) := by decide +kernel
theorem dLa_law_673 : decode (mC mLa_law) 673 = .ok (.if_icmp .eq (1115), 3) := by decide +kernel
theorem dLa_law_676 : decode (mC mLa_law) 676 = .ok (.iconst (0), 1) := by decide +kernel
theorem dLa_law_677 : decode (mC mLa_law) 677 = .ok (.ireturn, 1) := by decide +kernel
theorem dLa_law_678 : decode (mC mLa_law) 678 = .ok (.aload_n 1, 1) := by decide +kernel
theorem dLa_law_679 : decode (mC mLa_law) 679 = .ok (.aload_n 0, 1) := by decide +kernel
theorem dLa_law_680 : decode (mC mLa_law) 680 = .ok (.iload_n 3, 1) := by decide +kernel
theorem dLa_law_681 : decode (mC mLa_law) 681 = .ok (.iconst (1), 1) := by decide +kernel
theorem dLa_law_682 : decode (mC mLa_law) 682 = .ok (.iadd, 1) := by decide +kernel
theorem dLa_law_683 : decode (mC mLa_law) 683 = .ok (.iaload, 1) := by decide +kernel
theorem dLa_law_684 : decode (mC mLa_law) 684 = .ok (.aload_n 0, 1) := by decide +kernel
theorem dLa_law_685 : decode (mC mLa_law) 685 = .ok (.iload_n 3, 1) := by decide +kernel
theorem dLa_law_686 : decode (mC mLa_law) 686 = .ok (.iconst (2), 1) := by decide +kernel
theorem dLa_law_687 : decode (mC mLa_law) 687 = .ok (.iadd, 1) := by decide +kernel
theorem dLa_law_688 : decode (mC mLa_law) 688 = .ok (.iaload, 1) := by decide +kernel
theorem dLa_law_689 : decode (mC mLa_law) 689 = .ok (.invokevirtual 76, 3) := by decide +kernel
theorem dLa_law_692 : decode (mC mLa_law) 692 = .ok (.aload_n 2, 1) := by decide +kernel
theorem dLa_law_693 : decode (mC mLa_law) 693 = .ok (.aload_n 0, 1) := by decide +kernel
theorem dLa_law_694 : decode (mC mLa_law) 694 = .ok (.iload_n 3, 1) := by decide +kernel
theorem dLa_law_695 : decode (mC mLa_law) 695 = .ok (.iconst (1), 1) := by decide +kernel
theorem dLa_law_696 : decode (mC mLa_law) 696 = .ok (.iadd, 1) := by decide +kernel
theorem dLa_law_697 : decode (mC mLa_law) 697 = .ok (.iaload, 1) := by decide +kernel
theorem dLa_law_698 : decode (mC mLa_law) 698 = .ok (.aload_n 0, 1) := by decide +kernel
theorem dLa_law_699 : decode (mC mLa_law) 699 = .ok (.iload_n 3, 1) := by decide +kernel
theorem dLa_law_700 : decode (mC mLa_law) 700 = .ok (.iconst (2), 1) := by decide +kernel
theorem dLa_law_701 : decode (mC mLa_law) 701 = .ok (.iadd, 1) := by decide +kernel
theorem dLa_law_702 : decode (mC mLa_law) 702 = .ok (.iaload, 1) := by decide +kernel
theorem dLa_law_703 : decode (mC mLa_law) 703 = .ok (.invokevirtual 79, 3) := by decide +kernel
theorem dLa_law_706 : decode (mC mLa_law) 706 = .ok (.if_icmp .eq (1082), 3) := by decide +kernel
theorem dLa_law_709 : decode (mC mLa_law) 709 = .ok (.iconst (0), 1) := by decide +kernel
theorem dLa_law_710 : decode (mC mLa_law) 710 = .ok (.ireturn, 1) := by decide +kernel
theorem dLa_law_711 : decode (mC mLa_law) 711 = .ok (.aload_n 1, 1) := by decide +kernel
theorem dLa_law_712 : decode (mC mLa_law) 712 = .ok (.aload_n 0, 1) := by decide +kernel
theorem dLa_law_713 : decode (mC mLa_law) 713 = .ok (.iload_n 3, 1) := by decide +kernel
theorem dLa_law_714 : decode (mC mLa_law) 714 = .ok (.iconst (1), 1) := by decide +kernel
theorem dLa_law_715 : decode (mC mLa_law) 715 = .ok (.iadd, 1) := by decide +kernel
theorem dLa_law_716 : decode (mC mLa_law) 716 = .ok (.iaload, 1) := by decide +kernel
theorem dLa_law_717 : decode (mC mLa_law) 717 = .ok (.aload_n 0, 1) := by decide +kernel
theorem dLa_law_718 : decode (mC mLa_law) 718 = .ok (.iload_n 3, 1) := by decide +kernel
theorem dLa_law_719 : decode (mC mLa_law) 719 = .ok (.iconst (2), 1) := by decide +kernel
theorem dLa_law_720 : decode (mC mLa_law) 720 = .ok (.iadd, 1) := by decide +kernel
theorem dLa_law_721 : decode (mC mLa_law) 721 = .ok (.iaload, 1) := by decide +kernel
theorem dLa_law_722 : decode (mC mLa_law) 722 = .ok (.invokevirtual 80, 3) := by decide +kernel
theorem dLa_law_725 : decode (mC mLa_law) 725 = .ok (.aload_n 2, 1) := by decide +kernel
theorem dLa_law_726 : decode (mC mLa_law) 726 = .ok (.aload_n 0, 1) := by decide +kernel
theorem dLa_law_727 : decode (mC mLa_law) 727 = .ok (.iload_n 3, 1) := by decide +kernel
theorem dLa_law_728 : decode (mC mLa_law) 728 = .ok (.iconst (1), 1) := by decide +kernel
theorem dLa_law_729 : decode (mC mLa_law) 729 = .ok (.iadd, 1) := by decide +kernel
theorem dLa_law_730 : decode (mC mLa_law) 730 = .ok (.iaload, 1) := by decide +kernel
theorem dLa_law_731 : decode (mC mLa_law) 731 = .ok (.aload_n 0, 1) := by decide +kernel
theorem dLa_law_732 : decode (mC mLa_law) 732 = .ok (.iload_n 3, 1) := by decide +kernel
theorem dLa_law_733 : decode (mC mLa_law) 733 = .ok (.iconst (2), 1) := by decide +kernel
theorem dLa_law_734 : decode (mC mLa_law) 734 = .ok (.iadd, 1) := by decide +kernel
theorem dLa_law_735 : decode (mC mLa_law) 735 = .ok (.iaload, 1) := by decide +kernel
theorem dLa_law_736 : decode (mC mLa_law) 736 = .ok (.invokevirtual 83, 3) := by decide +kernel
theorem dLa_law_739 : decode (mC mLa_law) 739 = .ok (.if_icmp .eq (1049), 3) := by decide +kernel
theorem dLa_law_742 : decode (mC mLa_law) 742 = .ok (.iconst (0), 1) := by decide +kernel
theorem dLa_law_743 : decode (mC mLa_law) 743 = .ok (.ireturn, 1) := by decide +kernel
theorem dLa_law_744 : decode (mC mLa_law) 744 = .ok (.aload_n 1, 1) := by decide +kernel
theorem dLa_law_745 : decode (mC mLa_law) 745 = .ok (.aload_n 0, 1) := by decide +kernel
theorem dLa_law_746 : decode (mC mLa_law) 746 = .ok (.iload_n 3, 1) := by decide +kernel
theorem dLa_law_747 : decode (mC mLa_law) 747 = .ok (.iconst (1), 1) := by decide +kernel
theorem dLa_law_748 : decode (mC mLa_law) 748 = .ok (.iadd, 1) := by decide +kernel
theorem dLa_law_749 : decode (mC mLa_law) 749 = .ok (.iaload, 1) := by decide +kernel
theorem dLa_law_750 : decode (mC mLa_law) 750 = .ok (.aload_n 0, 1) := by decide +kernel
theorem dLa_law_751 : decode (mC mLa_law) 751 = .ok (.iload_n 3, 1) := by decide +kernel
theorem dLa_law_752 : decode (mC mLa_law) 752 = .ok (.iconst (2), 1) := by decide +kernel
theorem dLa_law_753 : decode (mC mLa_law) 753 = .ok (.iadd, 1) := by decide +kernel
theorem dLa_law_754 : decode (mC mLa_law) 754 = .ok (.iaload, 1) := by decide +kernel
theorem dLa_law_755 : decode (mC mLa_law) 755 = .ok (.invokevirtual 84, 3) := by decide +kernel
theorem dLa_law_758 : decode (mC mLa_law) 758 = .ok (.aload_n 2, 1) := by decide +kernel
theorem dLa_law_759 : decode (mC mLa_law) 759 = .ok (.aload_n 0, 1) := by decide +kernel
theorem dLa_law_760 : decode (mC mLa_law) 760 = .ok (.iload_n 3, 1) := by decide +kernel
theorem dLa_law_761 : decode (mC mLa_law) 761 = .ok (.iconst (1), 1) := by decide +kernel
theorem dLa_law_762 : decode (mC mLa_law) 762 = .ok (.iadd, 1) := by decide +kernel
theorem dLa_law_763 : decode (mC mLa_law) 763 = .ok (.iaload, 1) := by decide +kernel
theorem dLa_law_764 : decode (mC mLa_law) 764 = .ok (.aload_n 0, 1) := by decide +kernel
theorem dLa_law_765 : decode (mC mLa_law) 765 = .ok (.iload_n 3, 1) := by decide +kernel
theorem dLa_law_766 : decode (mC mLa_law) 766 = .ok (.iconst (2), 1) := by decide +kernel
theorem dLa_law_767 : decode (mC mLa_law) 767 = .ok (.iadd, 1) := by decide +kernel
theorem dLa_law_768 : decode (mC mLa_law) 768 = .ok (.iaload, 1) := by decide +kernel
theorem dLa_law_769 : decode (mC mLa_law) 769 = .ok (.invokevirtual 87, 3) := by decide +kernel
theorem dLa_law_772 : decode (mC mLa_law) 772 = .ok (.if_icmp .eq (1016), 3) := by decide +kernel
theorem dLa_law_775 : decode (mC mLa_law) 775 = .ok (.iconst (0), 1) := by decide +kernel
theorem dLa_law_776 : decode (mC mLa_law) 776 = .ok (.ireturn, 1) := by decide +kernel
theorem dLa_law_777 : decode (mC mLa_law) 777 = .ok (.aload_n 1, 1) := by decide +kernel
theorem dLa_law_778 : decode (mC mLa_law) 778 = .ok (.aload_n 0, 1) := by decide +kernel
theorem dLa_law_779 : decode (mC mLa_law) 779 = .ok (.iload_n 3, 1) := by decide +kernel
theorem dLa_law_780 : decode (mC mLa_law) 780 = .ok (.iconst (1), 1) := by decide +kernel
theorem dLa_law_781 : decode (mC mLa_law) 781 = .ok (.iadd, 1) := by decide +kernel
theorem dLa_law_782 : decode (mC mLa_law) 782 = .ok (.iaload, 1) := by decide +kernel
theorem dLa_law_783 : decode (mC mLa_law) 783 = .ok (.invokevirtual 88, 3) := by decide +kernel
theorem dLa_law_786 : decode (mC mLa_law) 786 = .ok (.aload_n 2, 1) := by decide +kernel
theorem dLa_law_787 : decode (mC mLa_law) 787 = .ok (.aload_n 0, 1) := by decide +kernel
theorem dLa_law_788 : decode (mC mLa_law) 788 = .ok (.iload_n 3, 1) := by decide +kernel
theorem dLa_law_789 : decode (mC mLa_law) 789 = .ok (.iconst (1), 1) := by decide +kernel
theorem dLa_law_790 : decode (mC mLa_law) 790 = .ok (.iadd, 1) := by decide +kernel
theorem dLa_law_791 : decode (mC mLa_law) 791 = .ok (.iaload, 1) := by decide +kernel
theorem dLa_law_792 : decode (mC mLa_law) 792 = .ok (.invokevirtual 91, 3) := by decide +kernel
theorem dLa_law_795 : decode (mC mLa_law) 795 = .ok (.if_icmp .eq (993), 3) := by decide +kernel
theorem dLa_law_798 : decode (mC mLa_law) 798 = .ok (.iconst (0), 1) := by decide +kernel
theorem dLa_law_799 : decode (mC mLa_law) 799 = .ok (.ireturn, 1) := by decide +kernel
theorem dLa_law_800 : decode (mC mLa_law) 800 = .ok (.aload_n 1, 1) := by decide +kernel
theorem dLa_law_801 : decode (mC mLa_law) 801 = .ok (.aload_n 0, 1) := by decide +kernel
theorem dLa_law_802 : decode (mC mLa_law) 802 = .ok (.iload_n 3, 1) := by decide +kernel
theorem dLa_law_803 : decode (mC mLa_law) 803 = .ok (.iconst (1), 1) := by decide +kernel
theorem dLa_law_804 : decode (mC mLa_law) 804 = .ok (.iadd, 1) := by decide +kernel
theorem dLa_law_805 : decode (mC mLa_law) 805 = .ok (.iaload, 1) := by decide +kernel
theorem dLa_law_806 : decode (mC mLa_law) 806 = .ok (.aload_n 0, 1) := by decide +kernel
theorem dLa_law_807 : decode (mC mLa_law) 807 = .ok (.iload_n 3, 1) := by decide +kernel
theorem dLa_law_808 : decode (mC mLa_law) 808 = .ok (.iconst (2), 1) := by decide +kernel
theorem dLa_law_809 : decode (mC mLa_law) 809 = .ok (.iadd, 1) := by decide +kernel
theorem dLa_law_810 : decode (mC mLa_law) 810 = .ok (.iaload, 1) := by decide +kernel
theorem dLa_law_811 : decode (mC mLa_law) 811 = .ok (.aload_n 0, 1) := by decide +kernel
theorem dLa_law_812 : decode (mC mLa_law) 812 = .ok (.iload_n 3, 1) := by decide +kernel
theorem dLa_law_813 : decode (mC mLa_law) 813 = .ok (.iconst (3), 1) := by decide +kernel
theorem dLa_law_814 : decode (mC mLa_law) 814 = .ok (.iadd, 1) := by decide +kernel
theorem dLa_law_815 : decode (mC mLa_law) 815 = .ok (.iaload, 1) := by decide +kernel
theorem dLa_law_816 : decode (mC mLa_law) 816 = .ok (.invokevirtual 92, 3) := by decide +kernel
theorem dLa_law_819 : decode (mC mLa_law) 819 = .ok (.aload_n 2, 1) := by decide +kernel
theorem dLa_law_820 : decode (mC mLa_law) 820 = .ok (.aload_n 0, 1) := by decide +kernel
theorem dLa_law_821 : decode (mC mLa_law) 821 = .ok (.iload_n 3, 1) := by decide +kernel
theorem dLa_law_822 : decode (mC mLa_law) 822 = .ok (.iconst (1), 1) := by decide +kernel
theorem dLa_law_823 : decode (mC mLa_law) 823 = .ok (.iadd, 1) := by decide +kernel
theorem dLa_law_824 : decode (mC mLa_law) 824 = .ok (.iaload, 1) := by decide +kernel
theorem dLa_law_825 : decode (mC mLa_law) 825 = .ok (.aload_n 0, 1) := by decide +kernel
theorem dLa_law_826 : decode (mC mLa_law) 826 = .ok (.iload_n 3, 1) := by decide +kernel
theorem dLa_law_827 : decode (mC mLa_law) 827 = .ok (.iconst (2), 1) := by decide +kernel
theorem dLa_law_828 : decode (mC mLa_law) 828 = .ok (.iadd, 1) := by decide +kernel
theorem dLa_law_829 : decode (mC mLa_law) 829 = .ok (.iaload, 1) := by decide +kernel
theorem dLa_law_830 : decode (mC mLa_law) 830 = .ok (.aload_n 0, 1) := by decide +kernel
theorem dLa_law_831 : decode (mC mLa_law) 831 = .ok (.iload_n 3, 1) := by decide +kernel
theorem dLa_law_832 : decode (mC mLa_law) 832 = .ok (.iconst (3), 1) := by decide +kernel
theorem dLa_law_833 : decode (mC mLa_law) 833 = .ok (.iadd, 1) := by decide +kernel
theorem dLa_law_834 : decode (mC mLa_law) 834 = .ok (.iaload, 1) := by decide +kernel
theorem dLa_law_835 : decode (mC mLa_law) 835 = .ok (.invokevirtual 96, 3) := by decide +kernel
theorem dLa_law_838 : decode (mC mLa_law) 838 = .ok (.if_icmp .eq (950), 3) := by decide +kernel
theorem dLa_law_841 : decode (mC mLa_law) 841 = .ok (.iconst (0), 1) := by decide +kernel
theorem dLa_law_842 : decode (mC mLa_law) 842 = .ok (.ireturn, 1) := by decide +kernel
theorem dLa_law_843 : decode (mC mLa_law) 843 = .ok (.aload_n 1, 1) := by decide +kernel
theorem dLa_law_844 : decode (mC mLa_law) 844 = .ok (.aload_n 0, 1) := by decide +kernel
theorem dLa_law_845 : decode (mC mLa_law) 845 = .ok (.iload_n 3, 1) := by decide +kernel
theorem dLa_law_846 : decode (mC mLa_law) 846 = .ok (.iconst (1), 1) := by decide +kernel
theorem dLa_law_847 : decode (mC mLa_law) 847 = .ok (.iadd, 1) := by decide +kernel
theorem dLa_law_848 : decode (mC mLa_law) 848 = .ok (.iaload, 1) := by decide +kernel
theorem dLa_law_849 : decode (mC mLa_law) 849 = .ok (.aload_n 0, 1) := by decide +kernel
theorem dLa_law_850 : decode (mC mLa_law) 850 = .ok (.iload_n 3, 1) := by decide +kernel
theorem dLa_law_851 : decode (mC mLa_law) 851 = .ok (.iconst (2), 1) := by decide +kernel
theorem dLa_law_852 : decode (mC mLa_law) 852 = .ok (.iadd, 1) := by decide +kernel
theorem dLa_law_853 : decode (mC mLa_law) 853 = .ok (.iaload, 1) := by decide +kernel
theorem dLa_law_854 : decode (mC mLa_law) 854 = .ok (.invokevirtual 97, 3) := by decide +kernel
theorem dLa_law_857 : decode (mC mLa_law) 857 = .ok (.aload_n 2, 1) := by decide +kernel
theorem dLa_law_858 : decode (mC mLa_law) 858 = .ok (.aload_n 0, 1) := by decide +kernel
theorem dLa_law_859 : decode (mC mLa_law) 859 = .ok (.iload_n 3, 1) := by decide +kernel
theorem dLa_law_860 : decode (mC mLa_law) 860 = .ok (.iconst (1), 1) := by decide +kernel
theorem dLa_law_861 : decode (mC mLa_law) 861 = .ok (.iadd, 1) := by decide +kernel
theorem dLa_law_862 : decode (mC mLa_law) 862 = .ok (.iaload, 1) := by decide +kernel
theorem dLa_law_863 : decode (mC mLa_law) 863 = .ok (.aload_n 0, 1) := by decide +kernel
theorem dLa_law_864 : decode (mC mLa_law) 864 = .ok (.iload_n 3, 1) := by decide +kernel
theorem dLa_law_865 : decode (mC mLa_law) 865 = .ok (.iconst (2), 1) := by decide +kernel
theorem dLa_law_866 : decode (mC mLa_law) 866 = .ok (.iadd, 1) := by decide +kernel
theorem dLa_law_867 : decode (mC mLa_law) 867 = .ok (.iaload, 1) := by decide +kernel
theorem dLa_law_868 : decode (mC mLa_law) 868 = .ok (.invokevirtual 100, 3) := by decide +kernel
theorem dLa_law_871 : decode (mC mLa_law) 871 = .ok (.if_icmp .eq (917), 3) := by decide +kernel
theorem dLa_law_874 : decode (mC mLa_law) 874 = .ok (.iconst (0), 1) := by decide +kernel
theorem dLa_law_875 : decode (mC mLa_law) 875 = .ok (.ireturn, 1) := by decide +kernel
theorem dLa_law_876 : decode (mC mLa_law) 876 = .ok (.aload_n 1, 1) := by decide +kernel
theorem dLa_law_877 : decode (mC mLa_law) 877 = .ok (.aload_n 0, 1) := by decide +kernel
theorem dLa_law_878 : decode (mC mLa_law) 878 = .ok (.iload_n 3, 1) := by decide +kernel
theorem dLa_law_879 : decode (mC mLa_law) 879 = .ok (.iconst (1), 1) := by decide +kernel
theorem dLa_law_880 : decode (mC mLa_law) 880 = .ok (.iadd, 1) := by decide +kernel
theorem dLa_law_881 : decode (mC mLa_law) 881 = .ok (.iaload, 1) := by decide +kernel
theorem dLa_law_882 : decode (mC mLa_law) 882 = .ok (.aload_n 0, 1) := by decide +kernel
theorem dLa_law_883 : decode (mC mLa_law) 883 = .ok (.iload_n 3, 1) := by decide +kernel
theorem dLa_law_884 : decode (mC mLa_law) 884 = .ok (.iconst (2), 1) := by decide +kernel
theorem dLa_law_885 : decode (mC mLa_law) 885 = .ok (.iadd, 1) := by decide +kernel
theorem dLa_law_886 : decode (mC mLa_law) 886 = .ok (.iaload, 1) := by decide +kernel
theorem dLa_law_887 : decode (mC mLa_law) 887 = .ok (.aload_n 0, 1) := by decide +kernel
theorem dLa_law_888 : decode (mC mLa_law) 888 = .ok (.iload_n 3, 1) := by decide +kernel
theorem dLa_law_889 : decode (mC mLa_law) 889 = .ok (.iconst (3), 1) := by decide +kernel
theorem dLa_law_890 : decode (mC mLa_law) 890 = .ok (.iadd, 1) := by decide +kernel
theorem dLa_law_891 : decode (mC mLa_law) 891 = .ok (.iaload, 1) := by decide +kernel
theorem dLa_law_892 : decode (mC mLa_law) 892 = .ok (.ifCond .eq (7), 3) := by decide +kernel
theorem dLa_law_895 : decode (mC mLa_law) 895 = .ok (.iconst (1), 1) := by decide +kernel
theorem dLa_law_896 : decode (mC mLa_law) 896 = .ok (.goto (4), 3) := by decide +kernel
theorem dLa_law_899 : decode (mC mLa_law) 899 = .ok (.iconst (0), 1) := by decide +kernel
theorem dLa_law_900 : decode (mC mLa_law) 900 = .ok (.invokevirtual 101, 3) := by decide +kernel
theorem dLa_law_903 : decode (mC mLa_law) 903 = .ok (.aload_n 2, 1) := by decide +kernel
theorem dLa_law_904 : decode (mC mLa_law) 904 = .ok (.aload_n 0, 1) := by decide +kernel
theorem dLa_law_905 : decode (mC mLa_law) 905 = .ok (.iload_n 3, 1) := by decide +kernel
theorem dLa_law_906 : decode (mC mLa_law) 906 = .ok (.iconst (1), 1) := by decide +kernel
theorem dLa_law_907 : decode (mC mLa_law) 907 = .ok (.iadd, 1) := by decide +kernel
theorem dLa_law_908 : decode (mC mLa_law) 908 = .ok (.iaload, 1) := by decide +kernel
theorem dLa_law_909 : decode (mC mLa_law) 909 = .ok (.aload_n 0, 1) := by decide +kernel
theorem dLa_law_910 : decode (mC mLa_law) 910 = .ok (.iload_n 3, 1) := by decide +kernel
theorem dLa_law_911 : decode (mC mLa_law) 911 = .ok (.iconst (2), 1) := by decide +kernel
theorem dLa_law_912 : decode (mC mLa_law) 912 = .ok (.iadd, 1) := by decide +kernel
theorem dLa_law_913 : decode (mC mLa_law) 913 = .ok (.iaload, 1) := by decide +kernel
theorem dLa_law_914 : decode (mC mLa_law) 914 = .ok (.aload_n 0, 1) := by decide +kernel
theorem dLa_law_915 : decode (mC mLa_law) 915 = .ok (.iload_n 3, 1) := by decide +kernel
theorem dLa_law_916 : decode (mC mLa_law) 916 = .ok (.iconst (3), 1) := by decide +kernel
theorem dLa_law_917 : decode (mC mLa_law) 917 = .ok (.iadd, 1) := by decide +kernel
theorem dLa_law_918 : decode (mC mLa_law) 918 = .ok (.iaload, 1) := by decide +kernel
theorem dLa_law_919 : decode (mC mLa_law) 919 = .ok (.ifCond .eq (7), 3) := by decide +kernel
theorem dLa_law_922 : decode (mC mLa_law) 922 = .ok (.iconst (1), 1) := by decide +kernel
theorem dLa_law_923 : decode (mC mLa_law) 923 = .ok (.goto (4), 3) := by decide +kernel
theorem dLa_law_926 : decode (mC mLa_law) 926 = .ok (.iconst (0), 1) := by decide +kernel
theorem dLa_law_927 : decode (mC mLa_law) 927 = .ok (.invokevirtual 105, 3) := by decide +kernel
theorem dLa_law_930 : decode (mC mLa_law) 930 = .ok (.if_icmp .eq (858), 3) := by decide +kernel
theorem dLa_law_933 : decode (mC mLa_law) 933 = .ok (.iconst (0), 1) := by decide +kernel
theorem dLa_law_934 : decode (mC mLa_law) 934 = .ok (.ireturn, 1) := by decide +kernel
theorem dLa_law_935 : decode (mC mLa_law) 935 = .ok (.aload_n 1, 1) := by decide +kernel
theorem dLa_law_936 : decode (mC mLa_law) 936 = .ok (.aload_n 0, 1) := by decide +kernel
theorem dLa_law_937 : decode (mC mLa_law) 937 = .ok (.iload_n 3, 1) := by decide +kernel
theorem dLa_law_938 : decode (mC mLa_law) 938 = .ok (.iconst (1), 1) := by decide +kernel
theorem dLa_law_939 : decode (mC mLa_law) 939 = .ok (.iadd, 1) := by decide +kernel
theorem dLa_law_940 : decode (mC mLa_law) 940 = .ok (.iaload, 1) := by decide +kernel
theorem dLa_law_941 : decode (mC mLa_law) 941 = .ok (.invokevirtual 106, 3) := by decide +kernel
theorem dLa_law_944 : decode (mC mLa_law) 944 = .ok (.aload_n 2, 1) := by decide +kernel
theorem dLa_law_945 : decode (mC mLa_law) 945 = .ok (.aload_n 0, 1) := by decide +kernel
theorem dLa_law_946 : decode (mC mLa_law) 946 = .ok (.iload_n 3, 1) := by decide +kernel
theorem dLa_law_947 : decode (mC mLa_law) 947 = .ok (.iconst (1), 1) := by decide +kernel
theorem dLa_law_948 : decode (mC mLa_law) 948 = .ok (.iadd, 1) := by decide +kernel
theorem dLa_law_949 : decode (mC mLa_law) 949 = .ok (.iaload, 1) := by decide +kernel
theorem dLa_law_950 : decode (mC mLa_law) 950 = .ok (.invokevirtual 109, 3) := by decide +kernel
theorem dLa_law_953 : decode (mC mLa_law) 953 = .ok (.if_icmp .eq (835), 3) := by decide +kernel
theorem dLa_law_956 : decode (mC mLa_law) 956 = .ok (.iconst (0), 1) := by decide +kernel
theorem dLa_law_957 : decode (mC mLa_law) 957 = .ok (.ireturn, 1) := by decide +kernel
theorem dLa_law_958 : decode (mC mLa_law) 958 = .ok (.aload_n 1, 1) := by decide +kernel
theorem dLa_law_959 : decode (mC mLa_law) 959 = .ok (.aload_n 0, 1) := by decide +kernel
theorem dLa_law_960 : decode (mC mLa_law) 960 = .ok (.iload_n 3, 1) := by decide +kernel
theorem dLa_law_961 : decode (mC mLa_law) 961 = .ok (.iconst (1), 1) := by decide +kernel
theorem dLa_law_962 : decode (mC mLa_law) 962 = .ok (.iadd, 1) := by decide +kernel
theorem dLa_law_963 : decode (mC mLa_law) 963 = .ok (.iaload, 1) := by decide +kernel
theorem dLa_law_964 : decode (mC mLa_law) 964 = .ok (.aload_n 0, 1) := by decide +kernel
theorem dLa_law_965 : decode (mC mLa_law) 965 = .ok (.iload_n 3, 1) := by decide +kernel
theorem dLa_law_966 : decode (mC mLa_law) 966 = .ok (.iconst (2), 1) := by decide +kernel
theorem dLa_law_967 : decode (mC mLa_law) 967 = .ok (.iadd, 1) := by decide +kernel
theorem dLa_law_968 : decode (mC mLa_law) 968 = .ok (.iaload, 1) := by decide +kernel
theorem dLa_law_969 : decode (mC mLa_law) 969 = .ok (.invokevirtual 110, 3) := by decide +kernel
theorem dLa_law_972 : decode (mC mLa_law) 972 = .ok (.aload_n 2, 1) := by decide +kernel
theorem dLa_law_973 : decode (mC mLa_law) 973 = .ok (.aload_n 0, 1) := by decide +kernel
theorem dLa_law_974 : decode (mC mLa_law) 974 = .ok (.iload_n 3, 1) := by decide +kernel
theorem dLa_law_975 : decode (mC mLa_law) 975 = .ok (.iconst (1), 1) := by decide +kernel
theorem dLa_law_976 : decode (mC mLa_law) 976 = .ok (.iadd, 1) := by decide +kernel
theorem dLa_law_977 : decode (mC mLa_law) 977 = .ok (.iaload, 1) := by decide +kernel
theorem dLa_law_978 : decode (mC mLa_law) 978 = .ok (.aload_n 0, 1) := by decide +kernel
theorem dLa_law_979 : decode (mC mLa_law) 979 = .ok (.iload_n 3, 1) := by decide +kernel
theorem dLa_law_980 : decode (mC mLa_law) 980 = .ok (.iconst (2), 1) := by decide +kernel
theorem dLa_law_981 : decode (mC mLa_law) 981 = .ok (.iadd, 1) := by decide +kernel
theorem dLa_law_982 : decode (mC mLa_law) 982 = .ok (.iaload, 1) := by decide +kernel
theorem dLa_law_983 : decode (mC mLa_law) 983 = .ok (.invokevirtual 113, 3) := by decide +kernel
theorem dLa_law_986 : decode (mC mLa_law) 986 = .ok (.if_icmp .eq (802), 3) := by decide +kernel
theorem dLa_law_989 : decode (mC mLa_law) 989 = .ok (.iconst (0), 1) := by decide +kernel
theorem dLa_law_990 : decode (mC mLa_law) 990 = .ok (.ireturn, 1) := by decide +kernel
theorem dLa_law_991 : decode (mC mLa_law) 991 = .ok (.aload_n 1, 1) := by decide +kernel
theorem dLa_law_992 : decode (mC mLa_law) 992 = .ok (.aload_n 0, 1) := by decide +kernel
theorem dLa_law_993 : decode (mC mLa_law) 993 = .ok (.iload_n 3, 1) := by decide +kernel
theorem dLa_law_994 : decode (mC mLa_law) 994 = .ok (.iconst (1), 1) := by decide +kernel
theorem dLa_law_995 : decode (mC mLa_law) 995 = .ok (.iadd, 1) := by decide +kernel
theorem dLa_law_996 : decode (mC mLa_law) 996 = .ok (.iaload, 1) := by decide +kernel
theorem dLa_law_997 : decode (mC mLa_law) 997 = .ok (.aload_n 0, 1) := by decide +kernel
theorem dLa_law_998 : decode (mC mLa_law) 998 = .ok (.iload_n 3, 1) := by decide +kernel
theorem dLa_law_999 : decode (mC mLa_law) 999 = .ok (.iconst (2), 1) := by decide +kernel
theorem dLa_law_1000 : decode (mC mLa_law) 1000 = .ok (.iadd, 1) := by decide +kernel
theorem dLa_law_1001 : decode (mC mLa_law) 1001 = .ok (.iaload, 1) := by decide +kernel
theorem dLa_law_1002 : decode (mC mLa_law) 1002 = .ok (.aload_n 0, 1) := by decide +kernel
theorem dLa_law_1003 : decode (mC mLa_law) 1003 = .ok (.iload_n 3, 1) := by decide +kernel
theorem dLa_law_1004 : decode (mC mLa_law) 1004 = .ok (.iconst (3), 1) := by decide +kernel
theorem dLa_law_1005 : decode (mC mLa_law) 1005 = .ok (.iadd, 1) := by decide +kernel
theorem dLa_law_1006 : decode (mC mLa_law) 1006 = .ok (.iaload, 1) := by decide +kernel
theorem dLa_law_1007 : decode (mC mLa_law) 1007 = .ok (.ifCond .eq (7), 3) := by decide +kernel
theorem dLa_law_1010 : decode (mC mLa_law) 1010 = .ok (.iconst (1), 1) := by decide +kernel
theorem dLa_law_1011 : decode (mC mLa_law) 1011 = .ok (.goto (4), 3) := by decide +kernel
theorem dLa_law_1014 : decode (mC mLa_law) 1014 = .ok (.iconst (0), 1) := by decide +kernel
theorem dLa_law_1015 : decode (mC mLa_law) 1015 = .ok (.invokevirtual 114, 3) := by decide +kernel
theorem dLa_law_1018 : decode (mC mLa_law) 1018 = .ok (.aload_n 2, 1) := by decide +kernel
theorem dLa_law_1019 : decode (mC mLa_law) 1019 = .ok (.aload_n 0, 1) := by decide +kernel
theorem dLa_law_1020 : decode (mC mLa_law) 1020 = .ok (.iload_n 3, 1) := by decide +kernel
theorem dLa_law_1021 : decode (mC mLa_law) 1021 = .ok (.iconst (1), 1) := by decide +kernel
theorem dLa_law_1022 : decode (mC mLa_law) 1022 = .ok (.iadd, 1) := by decide +kernel
theorem dLa_law_1023 : decode (mC mLa_law) 1023 = .ok (.iaload, 1) := by decide +kernel
theorem dLa_law_1024 : decode (mC mLa_law) 1024 = .ok (.aload_n 0, 1) := by decide +kernel
theorem dLa_law_1025 : decode (mC mLa_law) 1025 = .ok (.iload_n 3, 1) := by decide +kernel
theorem dLa_law_1026 : decode (mC mLa_law) 1026 = .ok (.iconst (2), 1) := by decide +kernel
theorem dLa_law_1027 : decode (mC mLa_law) 1027 = .ok (.iadd, 1) := by decide +kernel
theorem dLa_law_1028 : decode (mC mLa_law) 1028 = .ok (.iaload, 1) := by decide +kernel
theorem dLa_law_1029 : decode (mC mLa_law) 1029 = .ok (.aload_n 0, 1) := by decide +kernel
theorem dLa_law_1030 : decode (mC mLa_law) 1030 = .ok (.iload_n 3, 1) := by decide +kernel
theorem dLa_law_1031 : decode (mC mLa_law) 1031 = .ok (.iconst (3), 1) := by decide +kernel
theorem dLa_law_1032 : decode (mC mLa_law) 1032 = .ok (.iadd, 1) := by decide +kernel
theorem dLa_law_1033 : decode (mC mLa_law) 1033 = .ok (.iaload, 1) := by decide +kernel
theorem dLa_law_1034 : decode (mC mLa_law) 1034 = .ok (.ifCond .eq (7), 3) := by decide +kernel
theorem dLa_law_1037 : decode (mC mLa_law) 1037 = .ok (.iconst (1), 1) := by decide +kernel
theorem dLa_law_1038 : decode (mC mLa_law) 1038 = .ok (.goto (4), 3) := by decide +kernel
theorem dLa_law_1041 : decode (mC mLa_law) 1041 = .ok (.iconst (0), 1) := by decide +kernel
theorem dLa_law_1042 : decode (mC mLa_law) 1042 = .ok (.invokevirtual 117, 3) := by decide +kernel
theorem dLa_law_1045 : decode (mC mLa_law) 1045 = .ok (.if_icmp .eq (743), 3) := by decide +kernel
theorem dLa_law_1048 : decode (mC mLa_law) 1048 = .ok (.iconst (0), 1) := by decide +kernel
theorem dLa_law_1049 : decode (mC mLa_law) 1049 = .ok (.ireturn, 1) := by decide +kernel
theorem dLa_law_1050 : decode (mC mLa_law) 1050 = .ok (.aload_n 1, 1) := by decide +kernel
theorem dLa_law_1051 : decode (mC mLa_law) 1051 = .ok (.aload_n 0, 1) := by decide +kernel
theorem dLa_law_1052 : decode (mC mLa_law) 1052 = .ok (.iload_n 3, 1) := by decide +kernel
theorem dLa_law_1053 : decode (mC mLa_law) 1053 = .ok (.iconst (1), 1) := by decide +kernel
theorem dLa_law_1054 : decode (mC mLa_law) 1054 = .ok (.iadd, 1) := by decide +kernel
theorem dLa_law_1055 : decode (mC mLa_law) 1055 = .ok (.iaload, 1) := by decide +kernel
theorem dLa_law_1056 : decode (mC mLa_law) 1056 = .ok (.aload_n 0, 1) := by decide +kernel
theorem dLa_law_1057 : decode (mC mLa_law) 1057 = .ok (.iload_n 3, 1) := by decide +kernel
theorem dLa_law_1058 : decode (mC mLa_law) 1058 = .ok (.iconst (2), 1) := by decide +kernel
theorem dLa_law_1059 : decode (mC mLa_law) 1059 = .ok (.iadd, 1) := by decide +kernel
theorem dLa_law_1060 : decode (mC mLa_law) 1060 = .ok (.iaload, 1) := by decide +kernel
theorem dLa_law_1061 : decode (mC mLa_law) 1061 = .ok (.ifCond .eq (7), 3) := by decide +kernel
theorem dLa_law_1064 : decode (mC mLa_law) 1064 = .ok (.iconst (1), 1) := by decide +kernel
theorem dLa_law_1065 : decode (mC mLa_law) 1065 = .ok (.goto (4), 3) := by decide +kernel
theorem dLa_law_1068 : decode (mC mLa_law) 1068 = .ok (.iconst (0), 1) := by decide +kernel
theorem dLa_law_1069 : decode (mC mLa_law) 1069 = .ok (.invokevirtual 118, 3) := by decide +kernel
theorem dLa_law_1072 : decode (mC mLa_law) 1072 = .ok (.aload_n 2, 1) := by decide +kernel
theorem dLa_law_1073 : decode (mC mLa_law) 1073 = .ok (.aload_n 0, 1) := by decide +kernel
theorem dLa_law_1074 : decode (mC mLa_law) 1074 = .ok (.iload_n 3, 1) := by decide +kernel
theorem dLa_law_1075 : decode (mC mLa_law) 1075 = .ok (.iconst (1), 1) := by decide +kernel
theorem dLa_law_1076 : decode (mC mLa_law) 1076 = .ok (.iadd, 1) := by decide +kernel
theorem dLa_law_1077 : decode (mC mLa_law) 1077 = .ok (.iaload, 1) := by decide +kernel
theorem dLa_law_1078 : decode (mC mLa_law) 1078 = .ok (.aload_n 0, 1) := by decide +kernel
theorem dLa_law_1079 : decode (mC mLa_law) 1079 = .ok (.iload_n 3, 1) := by decide +kernel
theorem dLa_law_1080 : decode (mC mLa_law) 1080 = .ok (.iconst (2), 1) := by decide +kernel
theorem dLa_law_1081 : decode (mC mLa_law) 1081 = .ok (.iadd, 1) := by decide +kernel
theorem dLa_law_1082 : decode (mC mLa_law) 1082 = .ok (.iaload, 1) := by decide +kernel
theorem dLa_law_1083 : decode (mC mLa_law) 1083 = .ok (.ifCond .eq (7), 3) := by decide +kernel
theorem dLa_law_1086 : decode (mC mLa_law) 1086 = .ok (.iconst (1), 1) := by decide +kernel
theorem dLa_law_1087 : decode (mC mLa_law) 1087 = .ok (.goto (4), 3) := by decide +kernel
theorem dLa_law_1090 : decode (mC mLa_law) 1090 = .ok (.iconst (0), 1) := by decide +kernel
theorem dLa_law_1091 : decode (mC mLa_law) 1091 = .ok (.invokevirtual 122, 3) := by decide +kernel
theorem dLa_law_1094 : decode (mC mLa_law) 1094 = .ok (.if_icmp .eq (694), 3) := by decide +kernel
theorem dLa_law_1097 : decode (mC mLa_law) 1097 = .ok (.iconst (0), 1) := by decide +kernel
theorem dLa_law_1098 : decode (mC mLa_law) 1098 = .ok (.ireturn, 1) := by decide +kernel
theorem dLa_law_1099 : decode (mC mLa_law) 1099 = .ok (.aload_n 1, 1) := by decide +kernel
theorem dLa_law_1100 : decode (mC mLa_law) 1100 = .ok (.aload_n 0, 1) := by decide +kernel
theorem dLa_law_1101 : decode (mC mLa_law) 1101 = .ok (.iload_n 3, 1) := by decide +kernel
theorem dLa_law_1102 : decode (mC mLa_law) 1102 = .ok (.iconst (1), 1) := by decide +kernel
theorem dLa_law_1103 : decode (mC mLa_law) 1103 = .ok (.iadd, 1) := by decide +kernel
theorem dLa_law_1104 : decode (mC mLa_law) 1104 = .ok (.iaload, 1) := by decide +kernel
theorem dLa_law_1105 : decode (mC mLa_law) 1105 = .ok (.aload_n 0, 1) := by decide +kernel
theorem dLa_law_1106 : decode (mC mLa_law) 1106 = .ok (.iload_n 3, 1) := by decide +kernel
theorem dLa_law_1107 : decode (mC mLa_law) 1107 = .ok (.iconst (2), 1) := by decide +kernel
theorem dLa_law_1108 : decode (mC mLa_law) 1108 = .ok (.iadd, 1) := by decide +kernel
theorem dLa_law_1109 : decode (mC mLa_law) 1109 = .ok (.iaload, 1) := by decide +kernel
theorem dLa_law_1110 : decode (mC mLa_law) 1110 = .ok (.aload_n 0, 1) := by decide +kernel
theorem dLa_law_1111 : decode (mC mLa_law) 1111 = .ok (.iload_n 3, 1) := by decide +kernel
theorem dLa_law_1112 : decode (mC mLa_law) 1112 = .ok (.iconst (3), 1) := by decide +kernel
theorem dLa_law_1113 : decode (mC mLa_law) 1113 = .ok (.iadd, 1) := by decide +kernel
theorem dLa_law_1114 : decode (mC mLa_law) 1114 = .ok (.iaload, 1) := by decide +kernel
theorem dLa_law_1115 : decode (mC mLa_law) 1115 = .ok (.invokevirtual 123, 3) := by decide +kernel
theorem dLa_law_1118 : decode (mC mLa_law) 1118 = .ok (.aload_n 2, 1) := by decide +kernel
theorem dLa_law_1119 : decode (mC mLa_law) 1119 = .ok (.aload_n 0, 1) := by decide +kernel
theorem dLa_law_1120 : decode (mC mLa_law) 1120 = .ok (.iload_n 3, 1) := by decide +kernel
theorem dLa_law_1121 : decode (mC mLa_law) 1121 = .ok (.iconst (1), 1) := by decide +kernel
theorem dLa_law_1122 : decode (mC mLa_law) 1122 = .ok (.iadd, 1) := by decide +kernel
theorem dLa_law_1123 : decode (mC mLa_law) 1123 = .ok (.iaload, 1) := by decide +kernel
theorem dLa_law_1124 : decode (mC mLa_law) 1124 = .ok (.aload_n 0, 1) := by decide +kernel
theorem dLa_law_1125 : decode (mC mLa_law) 1125 = .ok (.iload_n 3, 1) := by decide +kernel
theorem dLa_law_1126 : decode (mC mLa_law) 1126 = .ok (.iconst (2), 1) := by decide +kernel
theorem dLa_law_1127 : decode (mC mLa_law) 1127 = .ok (.iadd, 1) := by decide +kernel
theorem dLa_law_1128 : decode (mC mLa_law) 1128 = .ok (.iaload, 1) := by decide +kernel
theorem dLa_law_1129 : decode (mC mLa_law) 1129 = .ok (.aload_n 0, 1) := by decide +kernel
theorem dLa_law_1130 : decode (mC mLa_law) 1130 = .ok (.iload_n 3, 1) := by decide +kernel
theorem dLa_law_1131 : decode (mC mLa_law) 1131 = .ok (.iconst (3), 1) := by decide +kernel
theorem dLa_law_1132 : decode (mC mLa_law) 1132 = .ok (.iadd, 1) := by decide +kernel
theorem dLa_law_1133 : decode (mC mLa_law) 1133 = .ok (.iaload, 1) := by decide +kernel
theorem dLa_law_1134 : decode (mC mLa_law) 1134 = .ok (.invokevirtual 126, 3) := by decide +kernel
theorem dLa_law_1137 : decode (mC mLa_law) 1137 = .ok (.if_icmp .eq (651), 3) := by decide +kernel
theorem dLa_law_1140 : decode (mC mLa_law) 1140 = .ok (.iconst (0), 1) := by decide +kernel
theorem dLa_law_1141 : decode (mC mLa_law) 1141 = .ok (.ireturn, 1) := by decide +kernel
theorem dLa_law_1142 : decode (mC mLa_law) 1142 = .ok (.aload_n 1, 1) := by decide +kernel
theorem dLa_law_1143 : decode (mC mLa_law) 1143 = .ok (.aload_n 0, 1) := by decide +kernel
theorem dLa_law_1144 : decode (mC mLa_law) 1144 = .ok (.iload_n 3, 1) := by decide +kernel
theorem dLa_law_1145 : decode (mC mLa_law) 1145 = .ok (.iconst (1), 1) := by decide +kernel
theorem dLa_law_1146 : decode (mC mLa_law) 1146 = .ok (.iadd, 1) := by decide +kernel
theorem dLa_law_1147 : decode (mC mLa_law) 1147 = .ok (.iaload, 1) := by decide +kernel
theorem dLa_law_1148 : decode (mC mLa_law) 1148 = .ok (.invokevirtual 127, 3) := by decide +kernel
theorem dLa_law_1151 : decode (mC mLa_law) 1151 = .ok (.aload_n 2, 1) := by decide +kernel
theorem dLa_law_1152 : decode (mC mLa_law) 1152 = .ok (.aload_n 0, 1) := by decide +kernel
theorem dLa_law_1153 : decode (mC mLa_law) 1153 = .ok (.iload_n 3, 1) := by decide +kernel
theorem dLa_law_1154 : decode (mC mLa_law) 1154 = .ok (.iconst (1), 1) := by decide +kernel
theorem dLa_law_1155 : decode (mC mLa_law) 1155 = .ok (.iadd, 1) := by decide +kernel
theorem dLa_law_1156 : decode (mC mLa_law) 1156 = .ok (.iaload, 1) := by decide +kernel
theorem dLa_law_1157 : decode (mC mLa_law) 1157 = .ok (.invokevirtual 130, 3) := by decide +kernel
theorem dLa_law_1160 : decode (mC mLa_law) 1160 = .ok (.if_icmp .eq (628), 3) := by decide +kernel
theorem dLa_law_1163 : decode (mC mLa_law) 1163 = .ok (.iconst (0), 1) := by decide +kernel
theorem dLa_law_1164 : decode (mC mLa_law) 1164 = .ok (.ireturn, 1) := by decide +kernel
theorem dLa_law_1165 : decode (mC mLa_law) 1165 = .ok (.aload_n 1, 1) := by decide +kernel
theorem dLa_law_1166 : decode (mC mLa_law) 1166 = .ok (.invokevirtual 131, 3) := by decide +kernel
theorem dLa_law_1169 : decode (mC mLa_law) 1169 = .ok (.aload_n 2, 1) := by decide +kernel
theorem dLa_law_1170 : decode (mC mLa_law) 1170 = .ok (.invokevirtual 134, 3) := by decide +kernel
theorem dLa_law_1173 : decode (mC mLa_law) 1173 = .ok (.if_icmp .eq (615), 3) := by decide +kernel
theorem dLa_law_1176 : decode (mC mLa_law) 1176 = .ok (.iconst (0), 1) := by decide +kernel
theorem dLa_law_1177 : decode (mC mLa_law) 1177 = .ok (.ireturn, 1) := by decide +kernel
theorem dLa_law_1178 : decode (mC mLa_law) 1178 = .ok (.aload_n 1, 1) := by decide +kernel
theorem dLa_law_1179 : decode (mC mLa_law) 1179 = .ok (.invokevirtual 135, 3) := by decide +kernel
theorem dLa_law_1182 : decode (mC mLa_law) 1182 = .ok (.aload_n 2, 1) := by decide +kernel
theorem dLa_law_1183 : decode (mC mLa_law) 1183 = .ok (.invokevirtual 138, 3) := by decide +kernel
theorem dLa_law_1186 : decode (mC mLa_law) 1186 = .ok (.if_icmp .eq (602), 3) := by decide +kernel
theorem dLa_law_1189 : decode (mC mLa_law) 1189 = .ok (.iconst (0), 1) := by decide +kernel
theorem dLa_law_1190 : decode (mC mLa_law) 1190 = .ok (.ireturn, 1) := by decide +kernel
theorem dLa_law_1191 : decode (mC mLa_law) 1191 = .ok (.aload_n 1, 1) := by decide +kernel
theorem dLa_law_1192 : decode (mC mLa_law) 1192 = .ok (.aload_n 0, 1) := by decide +kernel
theorem dLa_law_1193 : decode (mC mLa_law) 1193 = .ok (.iload_n 3, 1) := by decide +kernel
theorem dLa_law_1194 : decode (mC mLa_law) 1194 = .ok (.iconst (1), 1) := by decide +kernel
theorem dLa_law_1195 : decode (mC mLa_law) 1195 = .ok (.iadd, 1) := by decide +kernel
theorem dLa_law_1196 : decode (mC mLa_law) 1196 = .ok (.iaload, 1) := by decide +kernel
theorem dLa_law_1197 : decode (mC mLa_law) 1197 = .ok (.invokevirtual 139, 3) := by decide +kernel
theorem dLa_law_1200 : decode (mC mLa_law) 1200 = .ok (.aload_n 2, 1) := by decide +kernel
theorem dLa_law_1201 : decode (mC mLa_law) 1201 = .ok (.aload_n 0, 1) := by decide +kernel
theorem dLa_law_1202 : decode (mC mLa_law) 1202 = .ok (.iload_n 3, 1) := by decide +kernel
theorem dLa_law_1203 : decode (mC mLa_law) 1203 = .ok (.iconst (1), 1) := by decide +kernel
theorem dLa_law_1204 : decode (mC mLa_law) 1204 = .ok (.iadd, 1) := by decide +kernel
theorem dLa_law_1205 : decode (mC mLa_law) 1205 = .ok (.iaload, 1) := by decide +kernel
theorem dLa_law_1206 : decode (mC mLa_law) 1206 = .ok (.invokevirtual 142, 3) := by decide +kernel
theorem dLa_law_1209 : decode (mC mLa_law) 1209 = .ok (.if_icmp .eq (579), 3) := by decide +kernel
theorem dLa_law_1212 : decode (mC mLa_law) 1212 = .ok (.iconst (0), 1) := by decide +kernel
theorem dLa_law_1213 : decode (mC mLa_law) 1213 = .ok (.ireturn, 1) := by decide +kernel
theorem dLa_law_1214 : decode (mC mLa_law) 1214 = .ok (.aload_n 1, 1) := by decide +kernel
theorem dLa_law_1215 : decode (mC mLa_law) 1215 = .ok (.aload_n 0, 1) := by decide +kernel
theorem dLa_law_1216 : decode (mC mLa_law) 1216 = .ok (.iload_n 3, 1) := by decide +kernel
theorem dLa_law_1217 : decode (mC mLa_law) 1217 = .ok (.iconst (1), 1) := by decide +kernel
theorem dLa_law_1218 : decode (mC mLa_law) 1218 = .ok (.iadd, 1) := by decide +kernel
theorem dLa_law_1219 : decode (mC mLa_law) 1219 = .ok (.iaload, 1) := by decide +kernel
theorem dLa_law_1220 : decode (mC mLa_law) 1220 = .ok (.invokevirtual 143, 3) := by decide +kernel
theorem dLa_law_1223 : decode (mC mLa_law) 1223 = .ok (.aload_n 2, 1) := by decide +kernel
theorem dLa_law_1224 : decode (mC mLa_law) 1224 = .ok (.aload_n 0, 1) := by decide +kernel
theorem dLa_law_1225 : decode (mC mLa_law) 1225 = .ok (.iload_n 3, 1) := by decide +kernel
theorem dLa_law_1226 : decode (mC mLa_law) 1226 = .ok (.iconst (1), 1) := by decide +kernel
theorem dLa_law_1227 : decode (mC mLa_law) 1227 = .ok (.iadd, 1) := by decide +kernel
theorem dLa_law_1228 : decode (mC mLa_law) 1228 = .ok (.iaload, 1) := by decide +kernel
theorem dLa_law_1229 : decode (mC mLa_law) 1229 = .ok (.invokevirtual 146, 3) := by decide +kernel
theorem dLa_law_1232 : decode (mC mLa_law) 1232 = .ok (.if_icmp .eq (556), 3) := by decide +kernel
theorem dLa_law_1235 : decode (mC mLa_law) 1235 = .ok (.iconst (0), 1) := by decide +kernel
theorem dLa_law_1236 : decode (mC mLa_law) 1236 = .ok (.ireturn, 1) := by decide +kernel
theorem dLa_law_1237 : decode (mC mLa_law) 1237 = .ok (.aload_n 1, 1) := by decide +kernel
theorem dLa_law_1238 : decode (mC mLa_law) 1238 = .ok (.aload_n 0, 1) := by decide +kernel
theorem dLa_law_1239 : decode (mC mLa_law) 1239 = .ok (.iload_n 3, 1) := by decide +kernel
theorem dLa_law_1240 : decode (mC mLa_law) 1240 = .ok (.iconst (1), 1) := by decide +kernel
theorem dLa_law_1241 : decode (mC mLa_law) 1241 = .ok (.iadd, 1) := by decide +kernel
theorem dLa_law_1242 : decode (mC mLa_law) 1242 = .ok (.iaload, 1) := by decide +kernel
theorem dLa_law_1243 : decode (mC mLa_law) 1243 = .ok (.aload_n 0, 1) := by decide +kernel
theorem dLa_law_1244 : decode (mC mLa_law) 1244 = .ok (.iload_n 3, 1) := by decide +kernel
theorem dLa_law_1245 : decode (mC mLa_law) 1245 = .ok (.iconst (2), 1) := by decide +kernel
theorem dLa_law_1246 : decode (mC mLa_law) 1246 = .ok (.iadd, 1) := by decide +kernel
theorem dLa_law_1247 : decode (mC mLa_law) 1247 = .ok (.iaload, 1) := by decide +kernel
theorem dLa_law_1248 : decode (mC mLa_law) 1248 = .ok (.aload_n 0, 1) := by decide +kernel
theorem dLa_law_1249 : decode (mC mLa_law) 1249 = .ok (.iload_n 3, 1) := by decide +kernel
theorem dLa_law_1250 : decode (mC mLa_law) 1250 = .ok (.iconst (3), 1) := by decide +kernel
theorem dLa_law_1251 : decode (mC mLa_law) 1251 = .ok (.iadd, 1) := by decide +kernel
theorem dLa_law_1252 : decode (mC mLa_law) 1252 = .ok (.iaload, 1) := by decide +kernel
theorem dLa_law_1253 : decode (mC mLa_law) 1253 = .ok (.invokevirtual 147, 3) := by decide +kernel
theorem dLa_law_1256 : decode (mC mLa_law) 1256 = .ok (.aload_n 2, 1) := by decide +kernel
theorem dLa_law_1257 : decode (mC mLa_law) 1257 = .ok (.aload_n 0, 1) := by decide +kernel
theorem dLa_law_1258 : decode (mC mLa_law) 1258 = .ok (.iload_n 3, 1) := by decide +kernel
theorem dLa_law_1259 : decode (mC mLa_law) 1259 = .ok (.iconst (1), 1) := by decide +kernel
theorem dLa_law_1260 : decode (mC mLa_law) 1260 = .ok (.iadd, 1) := by decide +kernel
theorem dLa_law_1261 : decode (mC mLa_law) 1261 = .ok (.iaload, 1) := by decide +kernel
theorem dLa_law_1262 : decode (mC mLa_law) 1262 = .ok (.aload_n 0, 1) := by decide +kernel
theorem dLa_law_1263 : decode (mC mLa_law) 1263 = .ok (.iload_n 3, 1) := by decide +kernel
theorem dLa_law_1264 : decode (mC mLa_law) 1264 = .ok (.iconst (2), 1) := by decide +kernel
theorem dLa_law_1265 : decode (mC mLa_law) 1265 = .ok (.iadd, 1) := by decide +kernel
theorem dLa_law_1266 : decode (mC mLa_law) 1266 = .ok (.iaload, 1) := by decide +kernel
theorem dLa_law_1267 : decode (mC mLa_law) 1267 = .ok (.aload_n 0, 1) := by decide +kernel
theorem dLa_law_1268 : decode (mC mLa_law) 1268 = .ok (.iload_n 3, 1) := by decide +kernel
theorem dLa_law_1269 : decode (mC mLa_law) 1269 = .ok (.iconst (3), 1) := by decide +kernel
theorem dLa_law_1270 : decode (mC mLa_law) 1270 = .ok (.iadd, 1) := by decide +kernel
theorem dLa_law_1271 : decode (mC mLa_law) 1271 = .ok (.iaload, 1) := by decide +kernel
theorem dLa_law_1272 : decode (mC mLa_law) 1272 = .ok (.invokevirtual 150, 3) := by decide +kernel
theorem dLa_law_1275 : decode (mC mLa_law) 1275 = .ok (.if_icmp .eq (513), 3) := by decide +kernel
theorem dLa_law_1278 : decode (mC mLa_law) 1278 = .ok (.iconst (0), 1) := by decide +kernel
theorem dLa_law_1279 : decode (mC mLa_law) 1279 = .ok (.ireturn, 1) := by decide +kernel
theorem dLa_law_1280 : decode (mC mLa_law) 1280 = .ok (.aload_n 1, 1) := by decide +kernel
theorem dLa_law_1281 : decode (mC mLa_law) 1281 = .ok (.invokevirtual 151, 3) := by decide +kernel
theorem dLa_law_1284 : decode (mC mLa_law) 1284 = .ok (.aload_n 2, 1) := by decide +kernel
theorem dLa_law_1285 : decode (mC mLa_law) 1285 = .ok (.invokevirtual 154, 3) := by decide +kernel
theorem dLa_law_1288 : decode (mC mLa_law) 1288 = .ok (.if_icmp .eq (500), 3) := by decide +kernel
theorem dLa_law_1291 : decode (mC mLa_law) 1291 = .ok (.iconst (0), 1) := by decide +kernel
theorem dLa_law_1292 : decode (mC mLa_law) 1292 = .ok (.ireturn, 1) := by decide +kernel
theorem dLa_law_1293 : decode (mC mLa_law) 1293 = .ok (.aload_n 1, 1) := by decide +kernel
theorem dLa_law_1294 : decode (mC mLa_law) 1294 = .ok (.aload_n 0, 1) := by decide +kernel
theorem dLa_law_1295 : decode (mC mLa_law) 1295 = .ok (.iload_n 3, 1) := by decide +kernel
theorem dLa_law_1296 : decode (mC mLa_law) 1296 = .ok (.iconst (1), 1) := by decide +kernel
theorem dLa_law_1297 : decode (mC mLa_law) 1297 = .ok (.iadd, 1) := by decide +kernel
theorem dLa_law_1298 : decode (mC mLa_law) 1298 = .ok (.iaload, 1) := by decide +kernel
theorem dLa_law_1299 : decode (mC mLa_law) 1299 = .ok (.aload_n 0, 1) := by decide +kernel
theorem dLa_law_1300 : decode (mC mLa_law) 1300 = .ok (.iload_n 3, 1) := by decide +kernel
theorem dLa_law_1301 : decode (mC mLa_law) 1301 = .ok (.iconst (2), 1) := by decide +kernel
theorem dLa_law_1302 : decode (mC mLa_law) 1302 = .ok (.iadd, 1) := by decide +kernel
theorem dLa_law_1303 : decode (mC mLa_law) 1303 = .ok (.iaload, 1) := by decide +kernel
theorem dLa_law_1304 : decode (mC mLa_law) 1304 = .ok (.aload_n 0, 1) := by decide +kernel
theorem dLa_law_1305 : decode (mC mLa_law) 1305 = .ok (.iload_n 3, 1) := by decide +kernel
theorem dLa_law_1306 : decode (mC mLa_law) 1306 = .ok (.iconst (3), 1) := by decide +kernel
theorem dLa_law_1307 : decode (mC mLa_law) 1307 = .ok (.iadd, 1) := by decide +kernel
theorem dLa_law_1308 : decode (mC mLa_law) 1308 = .ok (.iaload, 1) := by decide +kernel
theorem dLa_law_1309 : decode (mC mLa_law) 1309 = .ok (.invokevirtual 155, 3) := by decide +kernel
theorem dLa_law_1312 : decode (mC mLa_law) 1312 = .ok (.aload_n 2, 1) := by decide +kernel
theorem dLa_law_1313 : decode (mC mLa_law) 1313 = .ok (.aload_n 0, 1) := by decide +kernel
theorem dLa_law_1314 : decode (mC mLa_law) 1314 = .ok (.iload_n 3, 1) := by decide +kernel
theorem dLa_law_1315 : decode (mC mLa_law) 1315 = .ok (.iconst (1), 1) := by decide +kernel
theorem dLa_law_1316 : decode (mC mLa_law) 1316 = .ok (.iadd, 1) := by decide +kernel
theorem dLa_law_1317 : decode (mC mLa_law) 1317 = .ok (.iaload, 1) := by decide +kernel
theorem dLa_law_1318 : decode (mC mLa_law) 1318 = .ok (.aload_n 0, 1) := by decide +kernel
theorem dLa_law_1319 : decode (mC mLa_law) 1319 = .ok (.iload_n 3, 1) := by decide +kernel
theorem dLa_law_1320 : decode (mC mLa_law) 1320 = .ok (.iconst (2), 1) := by decide +kernel
theorem dLa_law_1321 : decode (mC mLa_law) 1321 = .ok (.iadd, 1) := by decide +kernel
theorem dLa_law_1322 : decode (mC mLa_law) 1322 = .ok (.iaload, 1) := by decide +kernel
theorem dLa_law_1323 : decode (mC mLa_law) 1323 = .ok (.aload_n 0, 1) := by decide +kernel
theorem dLa_law_1324 : decode (mC mLa_law) 1324 = .ok (.iload_n 3, 1) := by decide +kernel
theorem dLa_law_1325 : decode (mC mLa_law) 1325 = .ok (.iconst (3), 1) := by decide +kernel
theorem dLa_law_1326 : decode (mC mLa_law) 1326 = .ok (.iadd, 1) := by decide +kernel
theorem dLa_law_1327 : decode (mC mLa_law) 1327 = .ok (.iaload, 1) := by decide +kernel
theorem dLa_law_1328 : decode (mC mLa_law) 1328 = .ok (.invokevirtual 158, 3) := by decide +kernel
theorem dLa_law_1331 : decode (mC mLa_law) 1331 = .ok (.if_icmp .eq (457), 3) := by decide +kernel
theorem dLa_law_1334 : decode (mC mLa_law) 1334 = .ok (.iconst (0), 1) := by decide +kernel
theorem dLa_law_1335 : decode (mC mLa_law) 1335 = .ok (.ireturn, 1) := by decide +kernel
theorem dLa_law_1336 : decode (mC mLa_law) 1336 = .ok (.aload_n 1, 1) := by decide +kernel
theorem dLa_law_1337 : decode (mC mLa_law) 1337 = .ok (.invokevirtual 159, 3) := by decide +kernel
theorem dLa_law_1340 : decode (mC mLa_law) 1340 = .ok (.aload_n 2, 1) := by decide +kernel
theorem dLa_law_1341 : decode (mC mLa_law) 1341 = .ok (.invokevirtual 162, 3) := by decide +kernel
theorem dLa_law_1344 : decode (mC mLa_law) 1344 = .ok (.if_icmp .eq (444), 3) := by decide +kernel
theorem dLa_law_1347 : decode (mC mLa_law) 1347 = .ok (.iconst (0), 1) := by decide +kernel
theorem dLa_law_1348 : decode (mC mLa_law) 1348 = .ok (.ireturn, 1) := by decide +kernel
theorem dLa_law_1349 : decode (mC mLa_law) 1349 = .ok (.aload_n 1, 1) := by decide +kernel
theorem dLa_law_1350 : decode (mC mLa_law) 1350 = .ok (.aload_n 0, 1) := by decide +kernel
theorem dLa_law_1351 : decode (mC mLa_law) 1351 = .ok (.iload_n 3, 1) := by decide +kernel
theorem dLa_law_1352 : decode (mC mLa_law) 1352 = .ok (.iconst (1), 1) := by decide +kernel
theorem dLa_law_1353 : decode (mC mLa_law) 1353 = .ok (.iadd, 1) := by decide +kernel
theorem dLa_law_1354 : decode (mC mLa_law) 1354 = .ok (.iaload, 1) := by decide +kernel
theorem dLa_law_1355 : decode (mC mLa_law) 1355 = .ok (.aload_n 0, 1) := by decide +kernel
theorem dLa_law_1356 : decode (mC mLa_law) 1356 = .ok (.iload_n 3, 1) := by decide +kernel
theorem dLa_law_1357 : decode (mC mLa_law) 1357 = .ok (.iconst (2), 1) := by decide +kernel
theorem dLa_law_1358 : decode (mC mLa_law) 1358 = .ok (.iadd, 1) := by decide +kernel
theorem dLa_law_1359 : decode (mC mLa_law) 1359 = .ok (.iaload, 1) := by decide +kernel
theorem dLa_law_1360 : decode (mC mLa_law) 1360 = .ok (.aload_n 0, 1) := by decide +kernel
theorem dLa_law_1361 : decode (mC mLa_law) 1361 = .ok (.iload_n 3, 1) := by decide +kernel
theorem dLa_law_1362 : decode (mC mLa_law) 1362 = .ok (.iconst (3), 1) := by decide +kernel
theorem dLa_law_1363 : decode (mC mLa_law) 1363 = .ok (.iadd, 1) := by decide +kernel
theorem dLa_law_1364 : decode (mC mLa_law) 1364 = .ok (.iaload, 1) := by decide +kernel
theorem dLa_law_1365 : decode (mC mLa_law) 1365 = .ok (.aload_n 0, 1) := by decide +kernel
theorem dLa_law_1366 : decode (mC mLa_law) 1366 = .ok (.iload_n 3, 1) := by decide +kernel
theorem dLa_law_1367 : decode (mC mLa_law) 1367 = .ok (.iconst (4), 1) := by decide +kernel
theorem dLa_law_1368 : decode (mC mLa_law) 1368 = .ok (.iadd, 1) := by decide +kernel
theorem dLa_law_1369 : decode (mC mLa_law) 1369 = .ok (.iaload, 1) := by decide +kernel
theorem dLa_law_1370 : decode (mC mLa_law) 1370 = .ok (.aload_n 0, 1) := by decide +kernel
theorem dLa_law_1371 : decode (mC mLa_law) 1371 = .ok (.iload_n 3, 1) := by decide +kernel
theorem dLa_law_1372 : decode (mC mLa_law) 1372 = .ok (.iconst (5), 1) := by decide +kernel
theorem dLa_law_1373 : decode (mC mLa_law) 1373 = .ok (.iadd, 1) := by decide +kernel
theorem dLa_law_1374 : decode (mC mLa_law) 1374 = .ok (.iaload, 1) := by decide +kernel
theorem dLa_law_1375 : decode (mC mLa_law) 1375 = .ok (.invokevirtual 163, 3) := by decide +kernel
theorem dLa_law_1378 : decode (mC mLa_law) 1378 = .ok (.aload_n 2, 1) := by decide +kernel
theorem dLa_law_1379 : decode (mC mLa_law) 1379 = .ok (.aload_n 0, 1) := by decide +kernel
theorem dLa_law_1380 : decode (mC mLa_law) 1380 = .ok (.iload_n 3, 1) := by decide +kernel
theorem dLa_law_1381 : decode (mC mLa_law) 1381 = .ok (.iconst (1), 1) := by decide +kernel
theorem dLa_law_1382 : decode (mC mLa_law) 1382 = .ok (.iadd, 1) := by decide +kernel
theorem dLa_law_1383 : decode (mC mLa_law) 1383 = .ok (.iaload, 1) := by decide +kernel
theorem dLa_law_1384 : decode (mC mLa_law) 1384 = .ok (.aload_n 0, 1) := by decide +kernel
theorem dLa_law_1385 : decode (mC mLa_law) 1385 = .ok (.iload_n 3, 1) := by decide +kernel
theorem dLa_law_1386 : decode (mC mLa_law) 1386 = .ok (.iconst (2), 1) := by decide +kernel
theorem dLa_law_1387 : decode (mC mLa_law) 1387 = .ok (.iadd, 1) := by decide +kernel
theorem dLa_law_1388 : decode (mC mLa_law) 1388 = .ok (.iaload, 1) := by decide +kernel
theorem dLa_law_1389 : decode (mC mLa_law) 1389 = .ok (.aload_n 0, 1) := by decide +kernel
theorem dLa_law_1390 : decode (mC mLa_law) 1390 = .ok (.iload_n 3, 1) := by decide +kernel
theorem dLa_law_1391 : decode (mC mLa_law) 1391 = .ok (.iconst (3), 1) := by decide +kernel
theorem dLa_law_1392 : decode (mC mLa_law) 1392 = .ok (.iadd, 1) := by decide +kernel
theorem dLa_law_1393 : decode (mC mLa_law) 1393 = .ok (.iaload, 1) := by decide +kernel
theorem dLa_law_1394 : decode (mC mLa_law) 1394 = .ok (.aload_n 0, 1) := by decide +kernel
theorem dLa_law_1395 : decode (mC mLa_law) 1395 = .ok (.iload_n 3, 1) := by decide +kernel
theorem dLa_law_1396 : decode (mC mLa_law) 1396 = .ok (.iconst (4), 1) := by decide +kernel
theorem dLa_law_1397 : decode (mC mLa_law) 1397 = .ok (.iadd, 1) := by decide +kernel
theorem dLa_law_1398 : decode (mC mLa_law) 1398 = .ok (.iaload, 1) := by decide +kernel
theorem dLa_law_1399 : decode (mC mLa_law) 1399 = .ok (.aload_n 0, 1) := by decide +kernel
theorem dLa_law_1400 : decode (mC mLa_law) 1400 = .ok (.iload_n 3, 1) := by decide +kernel
theorem dLa_law_1401 : decode (mC mLa_law) 1401 = .ok (.iconst (5), 1) := by decide +kernel
theorem dLa_law_1402 : decode (mC mLa_law) 1402 = .ok (.iadd, 1) := by decide +kernel
theorem dLa_law_1403 : decode (mC mLa_law) 1403 = .ok (.iaload, 1) := by decide +kernel
theorem dLa_law_1404 : decode (mC mLa_law) 1404 = .ok (.invokevirtual 166, 3) := by decide +kernel
theorem dLa_law_1407 : decode (mC mLa_law) 1407 = .ok (.if_icmp .eq (381), 3) := by decide +kernel
theorem dLa_law_1410 : decode (mC mLa_law) 1410 = .ok (.iconst (0), 1) := by decide +kernel
theorem dLa_law_1411 : decode (mC mLa_law) 1411 = .ok (.ireturn, 1) := by decide +kernel
theorem dLa_law_1412 : decode (mC mLa_law) 1412 = .ok (.aload_n 1, 1) := by decide +kernel
theorem dLa_law_1413 : decode (mC mLa_law) 1413 = .ok (.aload_n 0, 1) := by decide +kernel
theorem dLa_law_1414 : decode (mC mLa_law) 1414 = .ok (.iload_n 3, 1) := by decide +kernel
theorem dLa_law_1415 : decode (mC mLa_law) 1415 = .ok (.iconst (1), 1) := by decide +kernel
theorem dLa_law_1416 : decode (mC mLa_law) 1416 = .ok (.iadd, 1) := by decide +kernel
theorem dLa_law_1417 : decode (mC mLa_law) 1417 = .ok (.iaload, 1) := by decide +kernel
theorem dLa_law_1418 : decode (mC mLa_law) 1418 = .ok (.aload_n 0, 1) := by decide +kernel
theorem dLa_law_1419 : decode (mC mLa_law) 1419 = .ok (.iload_n 3, 1) := by decide +kernel
theorem dLa_law_1420 : decode (mC mLa_law) 1420 = .ok (.iconst (2), 1) := by decide +kernel
theorem dLa_law_1421 : decode (mC mLa_law) 1421 = .ok (.iadd, 1) := by decide +kernel
theorem dLa_law_1422 : decode (mC mLa_law) 1422 = .ok (.iaload, 1) := by decide +kernel
theorem dLa_law_1423 : decode (mC mLa_law) 1423 = .ok (.aload_n 0, 1) := by decide +kernel
theorem dLa_law_1424 : decode (mC mLa_law) 1424 = .ok (.iload_n 3, 1) := by decide +kernel
theorem dLa_law_1425 : decode (mC mLa_law) 1425 = .ok (.iconst (3), 1) := by decide +kernel
theorem dLa_law_1426 : decode (mC mLa_law) 1426 = .ok (.iadd, 1) := by decide +kernel
theorem dLa_law_1427 : decode (mC mLa_law) 1427 = .ok (.iaload, 1) := by decide +kernel
theorem dLa_law_1428 : decode (mC mLa_law) 1428 = .ok (.invokevirtual 167, 3) := by decide +kernel
theorem dLa_law_1431 : decode (mC mLa_law) 1431 = .ok (.aload_n 2, 1) := by decide +kernel
theorem dLa_law_1432 : decode (mC mLa_law) 1432 = .ok (.aload_n 0, 1) := by decide +kernel
theorem dLa_law_1433 : decode (mC mLa_law) 1433 = .ok (.iload_n 3, 1) := by decide +kernel
theorem dLa_law_1434 : decode (mC mLa_law) 1434 = .ok (.iconst (1), 1) := by decide +kernel
theorem dLa_law_1435 : decode (mC mLa_law) 1435 = .ok (.iadd, 1) := by decide +kernel
theorem dLa_law_1436 : decode (mC mLa_law) 1436 = .ok (.iaload, 1) := by decide +kernel
theorem dLa_law_1437 : decode (mC mLa_law) 1437 = .ok (.aload_n 0, 1) := by decide +kernel
theorem dLa_law_1438 : decode (mC mLa_law) 1438 = .ok (.iload_n 3, 1) := by decide +kernel
theorem dLa_law_1439 : decode (mC mLa_law) 1439 = .ok (.iconst (2), 1) := by decide +kernel
theorem dLa_law_1440 : decode (mC mLa_law) 1440 = .ok (.iadd, 1) := by decide +kernel
theorem dLa_law_1441 : decode (mC mLa_law) 1441 = .ok (.iaload, 1) := by decide +kernel
theorem dLa_law_1442 : decode (mC mLa_law) 1442 = .ok (.aload_n 0, 1) := by decide +kernel
theorem dLa_law_1443 : decode (mC mLa_law) 1443 = .ok (.iload_n 3, 1) := by decide +kernel
theorem dLa_law_1444 : decode (mC mLa_law) 1444 = .ok (.iconst (3), 1) := by decide +kernel
theorem dLa_law_1445 : decode (mC mLa_law) 1445 = .ok (.iadd, 1) := by decide +kernel
theorem dLa_law_1446 : decode (mC mLa_law) 1446 = .ok (.iaload, 1) := by decide +kernel
theorem dLa_law_1447 : decode (mC mLa_law) 1447 = .ok (.invokevirtual 170, 3) := by decide +kernel
theorem dLa_law_1450 : decode (mC mLa_law) 1450 = .ok (.if_icmp .eq (338), 3) := by decide +kernel
theorem dLa_law_1453 : decode (mC mLa_law) 1453 = .ok (.iconst (0), 1) := by decide +kernel
theorem dLa_law_1454 : decode (mC mLa_law) 1454 = .ok (.ireturn, 1) := by decide +kernel
theorem dLa_law_1455 : decode (mC mLa_law) 1455 = .ok (.aload_n 1, 1) := by decide +kernel
theorem dLa_law_1456 : decode (mC mLa_law) 1456 = .ok (.aload_n 0, 1) := by decide +kernel
theorem dLa_law_1457 : decode (mC mLa_law) 1457 = .ok (.iload_n 3, 1) := by decide +kernel
theorem dLa_law_1458 : decode (mC mLa_law) 1458 = .ok (.iconst (1), 1) := by decide +kernel
theorem dLa_law_1459 : decode (mC mLa_law) 1459 = .ok (.iadd, 1) := by decide +kernel
theorem dLa_law_1460 : decode (mC mLa_law) 1460 = .ok (.iaload, 1) := by decide +kernel
theorem dLa_law_1461 : decode (mC mLa_law) 1461 = .ok (.aload_n 0, 1) := by decide +kernel
theorem dLa_law_1462 : decode (mC mLa_law) 1462 = .ok (.iload_n 3, 1) := by decide +kernel
theorem dLa_law_1463 : decode (mC mLa_law) 1463 = .ok (.iconst (2), 1) := by decide +kernel
theorem dLa_law_1464 : decode (mC mLa_law) 1464 = .ok (.iadd, 1) := by decide +kernel
theorem dLa_law_1465 : decode (mC mLa_law) 1465 = .ok (.iaload, 1) := by decide +kernel
theorem dLa_law_1466 : decode (mC mLa_law) 1466 = .ok (.aload_n 0, 1) := by decide +kernel
theorem dLa_law_1467 : decode (mC mLa_law) 1467 = .ok (.iload_n 3, 1) := by decide +kernel
theorem dLa_law_1468 : decode (mC mLa_law) 1468 = .ok (.iconst (3), 1) := by decide +kernel
theorem dLa_law_1469 : decode (mC mLa_law) 1469 = .ok (.iadd, 1) := by decide +kernel
theorem dLa_law_1470 : decode (mC mLa_law) 1470 = .ok (.iaload, 1) := by decide +kernel
theorem dLa_law_1471 : decode (mC mLa_law) 1471 = .ok (.aload_n 0, 1) := by decide +kernel
theorem dLa_law_1472 : decode (mC mLa_law) 1472 = .ok (.iload_n 3, 1) := by decide +kernel
theorem dLa_law_1473 : decode (mC mLa_law) 1473 = .ok (.iconst (4), 1) := by decide +kernel
theorem dLa_law_1474 : decode (mC mLa_law) 1474 = .ok (.iadd, 1) := by decide +kernel
theorem dLa_law_1475 : decode (mC mLa_law) 1475 = .ok (.iaload, 1) := by decide +kernel
theorem dLa_law_1476 : decode (mC mLa_law) 1476 = .ok (.aload_n 0, 1) := by decide +kernel
theorem dLa_law_1477 : decode (mC mLa_law) 1477 = .ok (.iload_n 3, 1) := by decide +kernel
theorem dLa_law_1478 : decode (mC mLa_law) 1478 = .ok (.iconst (5), 1) := by decide +kernel
theorem dLa_law_1479 : decode (mC mLa_law) 1479 = .ok (.iadd, 1) := by decide +kernel
theorem dLa_law_1480 : decode (mC mLa_law) 1480 = .ok (.iaload, 1) := by decide +kernel
theorem dLa_law_1481 : decode (mC mLa_law) 1481 = .ok (.invokevirtual 171, 3) := by decide +kernel
theorem dLa_law_1484 : decode (mC mLa_law) 1484 = .ok (.aload_n 2, 1) := by decide +kernel
theorem dLa_law_1485 : decode (mC mLa_law) 1485 = .ok (.aload_n 0, 1) := by decide +kernel
theorem dLa_law_1486 : decode (mC mLa_law) 1486 = .ok (.iload_n 3, 1) := by decide +kernel
theorem dLa_law_1487 : decode (mC mLa_law) 1487 = .ok (.iconst (1), 1) := by decide +kernel
theorem dLa_law_1488 : decode (mC mLa_law) 1488 = .ok (.iadd, 1) := by decide +kernel
theorem dLa_law_1489 : decode (mC mLa_law) 1489 = .ok (.iaload, 1) := by decide +kernel
theorem dLa_law_1490 : decode (mC mLa_law) 1490 = .ok (.aload_n 0, 1) := by decide +kernel
theorem dLa_law_1491 : decode (mC mLa_law) 1491 = .ok (.iload_n 3, 1) := by decide +kernel
theorem dLa_law_1492 : decode (mC mLa_law) 1492 = .ok (.iconst (2), 1) := by decide +kernel
theorem dLa_law_1493 : decode (mC mLa_law) 1493 = .ok (.iadd, 1) := by decide +kernel
theorem dLa_law_1494 : decode (mC mLa_law) 1494 = .ok (.iaload, 1) := by decide +kernel
theorem dLa_law_1495 : decode (mC mLa_law) 1495 = .ok (.aload_n 0, 1) := by decide +kernel
theorem dLa_law_1496 : decode (mC mLa_law) 1496 = .ok (.iload_n 3, 1) := by decide +kernel
theorem dLa_law_1497 : decode (mC mLa_law) 1497 = .ok (.iconst (3), 1) := by decide +kernel
theorem dLa_law_1498 : decode (mC mLa_law) 1498 = .ok (.iadd, 1) := by decide +kernel
theorem dLa_law_1499 : decode (mC mLa_law) 1499 = .ok (.iaload, 1) := by decide +kernel
theorem dLa_law_1500 : decode (mC mLa_law) 1500 = .ok (.aload_n 0, 1) := by decide +kernel
theorem dLa_law_1501 : decode (mC mLa_law) 1501 = .ok (.iload_n 3, 1) := by decide +kernel
theorem dLa_law_1502 : decode (mC mLa_law) 1502 = .ok (.iconst (4), 1) := by decide +kernel
theorem dLa_law_1503 : decode (mC mLa_law) 1503 = .ok (.iadd, 1) := by decide +kernel
theorem dLa_law_1504 : decode (mC mLa_law) 1504 = .ok (.iaload, 1) := by decide +kernel
theorem dLa_law_1505 : decode (mC mLa_law) 1505 = .ok (.aload_n 0, 1) := by decide +kernel
theorem dLa_law_1506 : decode (mC mLa_law) 1506 = .ok (.iload_n 3, 1) := by decide +kernel
theorem dLa_law_1507 : decode (mC mLa_law) 1507 = .ok (.iconst (5), 1) := by decide +kernel
theorem dLa_law_1508 : decode (mC mLa_law) 1508 = .ok (.iadd, 1) := by decide +kernel
theorem dLa_law_1509 : decode (mC mLa_law) 1509 = .ok (.iaload, 1) := by decide +kernel
theorem dLa_law_1510 : decode (mC mLa_law) 1510 = .ok (.invokevirtual 174, 3) := by decide +kernel
theorem dLa_law_1513 : decode (mC mLa_law) 1513 = .ok (.if_icmp .eq (275), 3) := by decide +kernel
theorem dLa_law_1516 : decode (mC mLa_law) 1516 = .ok (.iconst (0), 1) := by decide +kernel
theorem dLa_law_1517 : decode (mC mLa_law) 1517 = .ok (.ireturn, 1) := by decide +kernel
theorem dLa_law_1518 : decode (mC mLa_law) 1518 = .ok (.aload_n 1, 1) := by decide +kernel
theorem dLa_law_1519 : decode (mC mLa_law) 1519 = .ok (.aload_n 0, 1) := by decide +kernel
theorem dLa_law_1520 : decode (mC mLa_law) 1520 = .ok (.iload_n 3, 1) := by decide +kernel
theorem dLa_law_1521 : decode (mC mLa_law) 1521 = .ok (.iconst (1), 1) := by decide +kernel
theorem dLa_law_1522 : decode (mC mLa_law) 1522 = .ok (.iadd, 1) := by decide +kernel
theorem dLa_law_1523 : decode (mC mLa_law) 1523 = .ok (.iaload, 1) := by decide +kernel
theorem dLa_law_1524 : decode (mC mLa_law) 1524 = .ok (.invokevirtual 175, 3) := by decide +kernel
theorem dLa_law_1527 : decode (mC mLa_law) 1527 = .ok (.aload_n 2, 1) := by decide +kernel
theorem dLa_law_1528 : decode (mC mLa_law) 1528 = .ok (.aload_n 0, 1) := by decide +kernel
theorem dLa_law_1529 : decode (mC mLa_law) 1529 = .ok (.iload_n 3, 1) := by decide +kernel
theorem dLa_law_1530 : decode (mC mLa_law) 1530 = .ok (.iconst (1), 1) := by decide +kernel
theorem dLa_law_1531 : decode (mC mLa_law) 1531 = .ok (.iadd, 1) := by decide +kernel
theorem dLa_law_1532 : decode (mC mLa_law) 1532 = .ok (.iaload, 1) := by decide +kernel
theorem dLa_law_1533 : decode (mC mLa_law) 1533 = .ok (.invokevirtual 179, 3) := by decide +kernel
theorem dLa_law_1536 : decode (mC mLa_law) 1536 = .ok (.if_icmp .eq (252), 3) := by decide +kernel
theorem dLa_law_1539 : decode (mC mLa_law) 1539 = .ok (.iconst (0), 1) := by decide +kernel
theorem dLa_law_1540 : decode (mC mLa_law) 1540 = .ok (.ireturn, 1) := by decide +kernel
theorem dLa_law_1541 : decode (mC mLa_law) 1541 = .ok (.aload_n 1, 1) := by decide +kernel
theorem dLa_law_1542 : decode (mC mLa_law) 1542 = .ok (.aload_n 0, 1) := by decide +kernel
theorem dLa_law_1543 : decode (mC mLa_law) 1543 = .ok (.iload_n 3, 1) := by decide +kernel
theorem dLa_law_1544 : decode (mC mLa_law) 1544 = .ok (.iconst (1), 1) := by decide +kernel
theorem dLa_law_1545 : decode (mC mLa_law) 1545 = .ok (.iadd, 1) := by decide +kernel
theorem dLa_law_1546 : decode (mC mLa_law) 1546 = .ok (.iaload, 1) := by decide +kernel
theorem dLa_law_1547 : decode (mC mLa_law) 1547 = .ok (.invokevirtual 180, 3) := by decide +kernel
theorem dLa_law_1550 : decode (mC mLa_law) 1550 = .ok (.aload_n 2, 1) := by decide +kernel
theorem dLa_law_1551 : decode (mC mLa_law) 1551 = .ok (.aload_n 0, 1) := by decide +kernel
theorem dLa_law_1552 : decode (mC mLa_law) 1552 = .ok (.iload_n 3, 1) := by decide +kernel
theorem dLa_law_1553 : decode (mC mLa_law) 1553 = .ok (.iconst (1), 1) := by decide +kernel
theorem dLa_law_1554 : decode (mC mLa_law) 1554 = .ok (.iadd, 1) := by decide +kernel
theorem dLa_law_1555 : decode (mC mLa_law) 1555 = .ok (.iaload, 1) := by decide +kernel
theorem dLa_law_1556 : decode (mC mLa_law) 1556 = .ok (.invokevirtual 183, 3) := by decide +kernel
theorem dLa_law_1559 : decode (mC mLa_law) 1559 = .ok (.if_icmp .eq (229), 3) := by decide +kernel
theorem dLa_law_1562 : decode (mC mLa_law) 1562 = .ok (.iconst (0), 1) := by decide +kernel
theorem dLa_law_1563 : decode (mC mLa_law) 1563 = .ok (.ireturn, 1) := by decide +kernel
theorem dLa_law_1564 : decode (mC mLa_law) 1564 = .ok (.aload_n 1, 1) := by decide +kernel
theorem dLa_law_1565 : decode (mC mLa_law) 1565 = .ok (.aload_n 0, 1) := by decide +kernel
theorem dLa_law_1566 : decode (mC mLa_law) 1566 = .ok (.iload_n 3, 1) := by decide +kernel
theorem dLa_law_1567 : decode (mC mLa_law) 1567 = .ok (.iconst (1), 1) := by decide +kernel
theorem dLa_law_1568 : decode (mC mLa_law) 1568 = .ok (.iadd, 1) := by decide +kernel
theorem dLa_law_1569 : decode (mC mLa_law) 1569 = .ok (.iaload, 1) := by decide +kernel
theorem dLa_law_1570 : decode (mC mLa_law) 1570 = .ok (.invokevirtual 184, 3) := by decide +kernel
theorem dLa_law_1573 : decode (mC mLa_law) 1573 = .ok (.aload_n 2, 1) := by decide +kernel
theorem dLa_law_1574 : decode (mC mLa_law) 1574 = .ok (.aload_n 0, 1) := by decide +kernel
theorem dLa_law_1575 : decode (mC mLa_law) 1575 = .ok (.iload_n 3, 1) := by decide +kernel
theorem dLa_law_1576 : decode (mC mLa_law) 1576 = .ok (.iconst (1), 1) := by decide +kernel
theorem dLa_law_1577 : decode (mC mLa_law) 1577 = .ok (.iadd, 1) := by decide +kernel
theorem dLa_law_1578 : decode (mC mLa_law) 1578 = .ok (.iaload, 1) := by decide +kernel
theorem dLa_law_1579 : decode (mC mLa_law) 1579 = .ok (.invokevirtual 187, 3) := by decide +kernel
theorem dLa_law_1582 : decode (mC mLa_law) 1582 = .ok (.if_icmp .eq (206), 3) := by decide +kernel
theorem dLa_law_1585 : decode (mC mLa_law) 1585 = .ok (.iconst (0), 1) := by decide +kernel
theorem dLa_law_1586 : decode (mC mLa_law) 1586 = .ok (.ireturn, 1) := by decide +kernel
theorem dLa_law_1587 : decode (mC mLa_law) 1587 = .ok (.aload_n 1, 1) := by decide +kernel
theorem dLa_law_1588 : decode (mC mLa_law) 1588 = .ok (.aload_n 0, 1) := by decide +kernel
theorem dLa_law_1589 : decode (mC mLa_law) 1589 = .ok (.iload_n 3, 1) := by decide +kernel
theorem dLa_law_1590 : decode (mC mLa_law) 1590 = .ok (.iconst (1), 1) := by decide +kernel
theorem dLa_law_1591 : decode (mC mLa_law) 1591 = .ok (.iadd, 1) := by decide +kernel
theorem dLa_law_1592 : decode (mC mLa_law) 1592 = .ok (.iaload, 1) := by decide +kernel
theorem dLa_law_1593 : decode (mC mLa_law) 1593 = .ok (.aload_n 0, 1) := by decide +kernel
theorem dLa_law_1594 : decode (mC mLa_law) 1594 = .ok (.iload_n 3, 1) := by decide +kernel
theorem dLa_law_1595 : decode (mC mLa_law) 1595 = .ok (.iconst (2), 1) := by decide +kernel
theorem dLa_law_1596 : decode (mC mLa_law) 1596 = .ok (.iadd, 1) := by decide +kernel
theorem dLa_law_1597 : decode (mC mLa_law) 1597 = .ok (.iaload, 1) := by decide +kernel
theorem dLa_law_1598 : decode (mC mLa_law) 1598 = .ok (.invokevirtual 188, 3) := by decide +kernel
theorem dLa_law_1601 : decode (mC mLa_law) 1601 = .ok (.aload_n 2, 1) := by decide +kernel
theorem dLa_law_1602 : decode (mC mLa_law) 1602 = .ok (.aload_n 0, 1) := by decide +kernel
theorem dLa_law_1603 : decode (mC mLa_law) 1603 = .ok (.iload_n 3, 1) := by decide +kernel
theorem dLa_law_1604 : decode (mC mLa_law) 1604 = .ok (.iconst (1), 1) := by decide +kernel
theorem dLa_law_1605 : decode (mC mLa_law) 1605 = .ok (.iadd, 1) := by decide +kernel
theorem dLa_law_1606 : decode (mC mLa_law) 1606 = .ok (.iaload, 1) := by decide +kernel
theorem dLa_law_1607 : decode (mC mLa_law) 1607 = .ok (.aload_n 0, 1) := by decide +kernel
theorem dLa_law_1608 : decode (mC mLa_law) 1608 = .ok (.iload_n 3, 1) := by decide +kernel
theorem dLa_law_1609 : decode (mC mLa_law) 1609 = .ok (.iconst (2), 1) := by decide +kernel
theorem dLa_law_1610 : decode (mC mLa_law) 1610 = .ok (.iadd, 1) := by decide +kernel
theorem dLa_law_1611 : decode (mC mLa_law) 1611 = .ok (.iaload, 1) := by decide +kernel
theorem dLa_law_1612 : decode (mC mLa_law) 1612 = .ok (.invokevirtual 191, 3) := by decide +kernel
theorem dLa_law_1615 : decode (mC mLa_law) 1615 = .ok (.if_icmp .eq (173), 3) := by decide +kernel
theorem dLa_law_1618 : decode (mC mLa_law) 1618 = .ok (.iconst (0), 1) := by decide +kernel
theorem dLa_law_1619 : decode (mC mLa_law) 1619 = .ok (.ireturn, 1) := by decide +kernel
theorem dLa_law_1620 : decode (mC mLa_law) 1620 = .ok (.aload_n 1, 1) := by decide +kernel
theorem dLa_law_1621 : decode (mC mLa_law) 1621 = .ok (.aload_n 0, 1) := by decide +kernel
theorem dLa_law_1622 : decode (mC mLa_law) 1622 = .ok (.iload_n 3, 1) := by decide +kernel
theorem dLa_law_1623 : decode (mC mLa_law) 1623 = .ok (.iconst (1), 1) := by decide +kernel
theorem dLa_law_1624 : decode (mC mLa_law) 1624 = .ok (.iadd, 1) := by decide +kernel
theorem dLa_law_1625 : decode (mC mLa_law) 1625 = .ok (.iaload, 1) := by decide +kernel
theorem dLa_law_1626 : decode (mC mLa_law) 1626 = .ok (.aload_n 0, 1) := by decide +kernel
theorem dLa_law_1627 : decode (mC mLa_law) 1627 = .ok (.iload_n 3, 1) := by decide +kernel
theorem dLa_law_1628 : decode (mC mLa_law) 1628 = .ok (.iconst (2), 1) := by decide +kernel
theorem dLa_law_1629 : decode (mC mLa_law) 1629 = .ok (.iadd, 1) := by decide +kernel
theorem dLa_law_1630 : decode (mC mLa_law) 1630 = .ok (.iaload, 1) := by decide +kernel
theorem dLa_law_1631 : decode (mC mLa_law) 1631 = .ok (.aload_n 0, 1) := by decide +kernel
theorem dLa_law_1632 : decode (mC mLa_law) 1632 = .ok (.iload_n 3, 1) := by decide +kernel
theorem dLa_law_1633 : decode (mC mLa_law) 1633 = .ok (.iconst (3), 1) := by decide +kernel
theorem dLa_law_1634 : decode (mC mLa_law) 1634 = .ok (.iadd, 1) := by decide +kernel
theorem dLa_law_1635 : decode (mC mLa_law) 1635 = .ok (.iaload, 1) := by decide +kernel
theorem dLa_law_1636 : decode (mC mLa_law) 1636 = .ok (.invokevirtual 192, 3) := by decide +kernel
theorem dLa_law_1639 : decode (mC mLa_law) 1639 = .ok (.aload_n 2, 1) := by decide +kernel
theorem dLa_law_1640 : decode (mC mLa_law) 1640 = .ok (.aload_n 0, 1) := by decide +kernel
theorem dLa_law_1641 : decode (mC mLa_law) 1641 = .ok (.iload_n 3, 1) := by decide +kernel
theorem dLa_law_1642 : decode (mC mLa_law) 1642 = .ok (.iconst (1), 1) := by decide +kernel
theorem dLa_law_1643 : decode (mC mLa_law) 1643 = .ok (.iadd, 1) := by decide +kernel
theorem dLa_law_1644 : decode (mC mLa_law) 1644 = .ok (.iaload, 1) := by decide +kernel
theorem dLa_law_1645 : decode (mC mLa_law) 1645 = .ok (.aload_n 0, 1) := by decide +kernel
theorem dLa_law_1646 : decode (mC mLa_law) 1646 = .ok (.iload_n 3, 1) := by decide +kernel
theorem dLa_law_1647 : decode (mC mLa_law) 1647 = .ok (.iconst (2), 1) := by decide +kernel
theorem dLa_law_1648 : decode (mC mLa_law) 1648 = .ok (.iadd, 1) := by decide +kernel
theorem dLa_law_1649 : decode (mC mLa_law) 1649 = .ok (.iaload, 1) := by decide +kernel
theorem dLa_law_1650 : decode (mC mLa_law) 1650 = .ok (.aload_n 0, 1) := by decide +kernel
theorem dLa_law_1651 : decode (mC mLa_law) 1651 = .ok (.iload_n 3, 1) := by decide +kernel
theorem dLa_law_1652 : decode (mC mLa_law) 1652 = .ok (.iconst (3), 1) := by decide +kernel
theorem dLa_law_1653 : decode (mC mLa_law) 1653 = .ok (.iadd, 1) := by decide +kernel
theorem dLa_law_1654 : decode (mC mLa_law) 1654 = .ok (.iaload, 1) := by decide +kernel
theorem dLa_law_1655 : decode (mC mLa_law) 1655 = .ok (.invokevirtual 195, 3) := by decide +kernel
theorem dLa_law_1658 : decode (mC mLa_law) 1658 = .ok (.if_icmp .eq (130), 3) := by decide +kernel
theorem dLa_law_1661 : decode (mC mLa_law) 1661 = .ok (.iconst (0), 1) := by decide +kernel
theorem dLa_law_1662 : decode (mC mLa_law) 1662 = .ok (.ireturn, 1) := by decide +kernel
theorem dLa_law_1663 : decode (mC mLa_law) 1663 = .ok (.aload_n 1, 1) := by decide +kernel
theorem dLa_law_1664 : decode (mC mLa_law) 1664 = .ok (.aload_n 0, 1) := by decide +kernel
theorem dLa_law_1665 : decode (mC mLa_law) 1665 = .ok (.iload_n 3, 1) := by decide +kernel
theorem dLa_law_1666 : decode (mC mLa_law) 1666 = .ok (.iconst (1), 1) := by decide +kernel
theorem dLa_law_1667 : decode (mC mLa_law) 1667 = .ok (.iadd, 1) := by decide +kernel
theorem dLa_law_1668 : decode (mC mLa_law) 1668 = .ok (.iaload, 1) := by decide +kernel
theorem dLa_law_1669 : decode (mC mLa_law) 1669 = .ok (.invokevirtual 196, 3) := by decide +kernel
theorem dLa_law_1672 : decode (mC mLa_law) 1672 = .ok (.aload_n 2, 1) := by decide +kernel
theorem dLa_law_1673 : decode (mC mLa_law) 1673 = .ok (.aload_n 0, 1) := by decide +kernel
theorem dLa_law_1674 : decode (mC mLa_law) 1674 = .ok (.iload_n 3, 1) := by decide +kernel
theorem dLa_law_1675 : decode (mC mLa_law) 1675 = .ok (.iconst (1), 1) := by decide +kernel
theorem dLa_law_1676 : decode (mC mLa_law) 1676 = .ok (.iadd, 1) := by decide +kernel
theorem dLa_law_1677 : decode (mC mLa_law) 1677 = .ok (.iaload, 1) := by decide +kernel
theorem dLa_law_1678 : decode (mC mLa_law) 1678 = .ok (.invokevirtual 199, 3) := by decide +kernel
theorem dLa_law_1681 : decode (mC mLa_law) 1681 = .ok (.if_icmp .eq (107), 3) := by decide +kernel
theorem dLa_law_1684 : decode (mC mLa_law) 1684 = .ok (.iconst (0), 1) := by decide +kernel
theorem dLa_law_1685 : decode (mC mLa_law) 1685 = .ok (.ireturn, 1) := by decide +kernel
theorem dLa_law_1686 : decode (mC mLa_law) 1686 = .ok (.aload_n 1, 1) := by decide +kernel
theorem dLa_law_1687 : decode (mC mLa_law) 1687 = .ok (.aload_n 0, 1) := by decide +kernel
theorem dLa_law_1688 : decode (mC mLa_law) 1688 = .ok (.iload_n 3, 1) := by decide +kernel
theorem dLa_law_1689 : decode (mC mLa_law) 1689 = .ok (.iconst (1), 1) := by decide +kernel
theorem dLa_law_1690 : decode (mC mLa_law) 1690 = .ok (.iadd, 1) := by decide +kernel
theorem dLa_law_1691 : decode (mC mLa_law) 1691 = .ok (.iaload, 1) := by decide +kernel
theorem dLa_law_1692 : decode (mC mLa_law) 1692 = .ok (.invokevirtual 200, 3) := by decide +kernel
theorem dLa_law_1695 : decode (mC mLa_law) 1695 = .ok (.aload_n 2, 1) := by decide +kernel
theorem dLa_law_1696 : decode (mC mLa_law) 1696 = .ok (.aload_n 0, 1) := by decide +kernel
theorem dLa_law_1697 : decode (mC mLa_law) 1697 = .ok (.iload_n 3, 1) := by decide +kernel
theorem dLa_law_1698 : decode (mC mLa_law) 1698 = .ok (.iconst (1), 1) := by decide +kernel
theorem dLa_law_1699 : decode (mC mLa_law) 1699 = .ok (.iadd, 1) := by decide +kernel
theorem dLa_law_1700 : decode (mC mLa_law) 1700 = .ok (.iaload, 1) := by decide +kernel
theorem dLa_law_1701 : decode (mC mLa_law) 1701 = .ok (.invokevirtual 203, 3) := by decide +kernel
theorem dLa_law_1704 : decode (mC mLa_law) 1704 = .ok (.if_icmp .eq (84), 3) := by decide +kernel
theorem dLa_law_1707 : decode (mC mLa_law) 1707 = .ok (.iconst (0), 1) := by decide +kernel
theorem dLa_law_1708 : decode (mC mLa_law) 1708 = .ok (.ireturn, 1) := by decide +kernel
theorem dLa_law_1709 : decode (mC mLa_law) 1709 = .ok (.aload_n 1, 1) := by decide +kernel
theorem dLa_law_1710 : decode (mC mLa_law) 1710 = .ok (.aload_n 0, 1) := by decide +kernel
theorem dLa_law_1711 : decode (mC mLa_law) 1711 = .ok (.iload_n 3, 1) := by decide +kernel
theorem dLa_law_1712 : decode (mC mLa_law) 1712 = .ok (.iconst (1), 1) := by decide +kernel
theorem dLa_law_1713 : decode (mC mLa_law) 1713 = .ok (.iadd, 1) := by decide +kernel
theorem dLa_law_1714 : decode (mC mLa_law) 1714 = .ok (.iaload, 1) := by decide +kernel
theorem dLa_law_1715 : decode (mC mLa_law) 1715 = .ok (.aload_n 0, 1) := by decide +kernel
theorem dLa_law_1716 : decode (mC mLa_law) 1716 = .ok (.iload_n 3, 1) := by decide +kernel
theorem dLa_law_1717 : decode (mC mLa_law) 1717 = .ok (.iconst (2), 1) := by decide +kernel
theorem dLa_law_1718 : decode (mC mLa_law) 1718 = .ok (.iadd, 1) := by decide +kernel
theorem dLa_law_1719 : decode (mC mLa_law) 1719 = .ok (.iaload, 1) := by decide +kernel
theorem dLa_law_1720 : decode (mC mLa_law) 1720 = .ok (.aload_n 0, 1) := by decide +kernel
theorem dLa_law_1721 : decode (mC mLa_law) 1721 = .ok (.iload_n 3, 1) := by decide +kernel
theorem dLa_law_1722 : decode (mC mLa_law) 1722 = .ok (.iconst (3), 1) := by decide +kernel
theorem dLa_law_1723 : decode (mC mLa_law) 1723 = .ok (.iadd, 1) := by decide +kernel
theorem dLa_law_1724 : decode (mC mLa_law) 1724 = .ok (.iaload, 1) := by decide +kernel
theorem dLa_law_1725 : decode (mC mLa_law) 1725 = .ok (.aload_n 0, 1) := by decide +kernel
theorem dLa_law_1726 : decode (mC mLa_law) 1726 = .ok (.iload_n 3, 1) := by decide +kernel
theorem dLa_law_1727 : decode (mC mLa_law) 1727 = .ok (.iconst (4), 1) := by decide +kernel
theorem dLa_law_1728 : decode (mC mLa_law) 1728 = .ok (.iadd, 1) := by decide +kernel
theorem dLa_law_1729 : decode (mC mLa_law) 1729 = .ok (.iaload, 1) := by decide +kernel
theorem dLa_law_1730 : decode (mC mLa_law) 1730 = .ok (.invokevirtual 204, 3) := by decide +kernel
theorem dLa_law_1733 : decode (mC mLa_law) 1733 = .ok (.aload_n 2, 1) := by decide +kernel
theorem dLa_law_1734 : decode (mC mLa_law) 1734 = .ok (.aload_n 0, 1) := by decide +kernel
theorem dLa_law_1735 : decode (mC mLa_law) 1735 = .ok (.iload_n 3, 1) := by decide +kernel
theorem dLa_law_1736 : decode (mC mLa_law) 1736 = .ok (.iconst (1), 1) := by decide +kernel
theorem dLa_law_1737 : decode (mC mLa_law) 1737 = .ok (.iadd, 1) := by decide +kernel
theorem dLa_law_1738 : decode (mC mLa_law) 1738 = .ok (.iaload, 1) := by decide +kernel
theorem dLa_law_1739 : decode (mC mLa_law) 1739 = .ok (.aload_n 0, 1) := by decide +kernel
theorem dLa_law_1740 : decode (mC mLa_law) 1740 = .ok (.iload_n 3, 1) := by decide +kernel
theorem dLa_law_1741 : decode (mC mLa_law) 1741 = .ok (.iconst (2), 1) := by decide +kernel
theorem dLa_law_1742 : decode (mC mLa_law) 1742 = .ok (.iadd, 1) := by decide +kernel
theorem dLa_law_1743 : decode (mC mLa_law) 1743 = .ok (.iaload, 1) := by decide +kernel
theorem dLa_law_1744 : decode (mC mLa_law) 1744 = .ok (.aload_n 0, 1) := by decide +kernel
theorem dLa_law_1745 : decode (mC mLa_law) 1745 = .ok (.iload_n 3, 1) := by decide +kernel
theorem dLa_law_1746 : decode (mC mLa_law) 1746 = .ok (.iconst (3), 1) := by decide +kernel
theorem dLa_law_1747 : decode (mC mLa_law) 1747 = .ok (.iadd, 1) := by decide +kernel
theorem dLa_law_1748 : decode (mC mLa_law) 1748 = .ok (.iaload, 1) := by decide +kernel
theorem dLa_law_1749 : decode (mC mLa_law) 1749 = .ok (.aload_n 0, 1) := by decide +kernel
theorem dLa_law_1750 : decode (mC mLa_law) 1750 = .ok (.iload_n 3, 1) := by decide +kernel
theorem dLa_law_1751 : decode (mC mLa_law) 1751 = .ok (.iconst (4), 1) := by decide +kernel
theorem dLa_law_1752 : decode (mC mLa_law) 1752 = .ok (.iadd, 1) := by decide +kernel
theorem dLa_law_1753 : decode (mC mLa_law) 1753 = .ok (.iaload, 1) := by decide +kernel
theorem dLa_law_1754 : decode (mC mLa_law) 1754 = .ok (.invokevirtual 208, 3) := by decide +kernel
theorem dLa_law_1757 : decode (mC mLa_law) 1757 = .ok (.if_icmp .eq (31), 3) := by decide +kernel
theorem dLa_law_1760 : decode (mC mLa_law) 1760 = .ok (.iconst (0), 1) := by decide +kernel
theorem dLa_law_1761 : decode (mC mLa_law) 1761 = .ok (.ireturn, 1) := by decide +kernel
theorem dLa_law_1762 : decode (mC mLa_law) 1762 = .ok (.aload_n 1, 1) := by decide +kernel
theorem dLa_law_1763 : decode (mC mLa_law) 1763 = .ok (.invokevirtual 209, 3) := by decide +kernel
theorem dLa_law_1766 : decode (mC mLa_law) 1766 = .ok (.aload_n 2, 1) := by decide +kernel
theorem dLa_law_1767 : decode (mC mLa_law) 1767 = .ok (.invokevirtual 212, 3) := by decide +kernel
theorem dLa_law_1770 : decode (mC mLa_law) 1770 = .ok (.if_icmp .eq (18), 3) := by decide +kernel
theorem dLa_law_1773 : decode (mC mLa_law) 1773 = .ok (.iconst (0), 1) := by decide +kernel
theorem dLa_law_1774 : decode (mC mLa_law) 1774 = .ok (.ireturn, 1) := by decide +kernel
theorem dLa_law_1775 : decode (mC mLa_law) 1775 = .ok (.aload_n 1, 1) := by decide +kernel
theorem dLa_law_1776 : decode (mC mLa_law) 1776 = .ok (.invokevirtual 213, 3) := by decide +kernel
theorem dLa_law_1779 : decode (mC mLa_law) 1779 = .ok (.aload_n 2, 1) := by decide +kernel
theorem dLa_law_1780 : decode (mC mLa_law) 1780 = .ok (.invokevirtual 216, 3) := by decide +kernel
theorem dLa_law_1783 : decode (mC mLa_law) 1783 = .ok (.if_icmp .eq (5), 3) := by decide +kernel
theorem dLa_law_1786 : decode (mC mLa_law) 1786 = .ok (.iconst (0), 1) := by decide +kernel
theorem dLa_law_1787 : decode (mC mLa_law) 1787 = .ok (.ireturn, 1) := by decide +kernel
theorem dLa_law_1788 : decode (mC mLa_law) 1788 = .ok (.iinc 3 (6), 3) := by decide +kernel
theorem dLa_law_1791 : decode (mC mLa_law) 1791 = .ok (.goto (-1773), 3) := by decide +kernel
theorem dLa_law_1794 : decode (mC mLa_law) 1794 = .ok (.iconst (1), 1) := by decide +kernel
theorem dLa_law_1795 : decode (mC mLa_law) 1795 = .ok (.ireturn, 1) := by decide +kernel
theorem bLa_law_16 {E : mEn} {d : Nat} {σ : mSt} {Q : mPost} {u3 : Value} : WP E d mLa_law 16 [.ref 1000, .ref 0, .ref 166, u3] [] σ Q = WP E d mLa_law 18 [.ref 1000, .ref 0, .ref 166, .int 0] [] σ Q := (w_iconst (v := 0) dLa_law_16 rfl).trans (w_istore_n (ls' := [.ref 1000, .ref 0, .ref 166, .int 0]) dLa_law_17 (Nat.le_of_ble_eq_true rfl) rfl)
theorem bLa_law_18 {E : mEn} {d : Nat} {σ : mSt} {Q : mPost} {a3 : Int32} : WP E d mLa_law 18 [.ref 1000, .ref 0, .ref 166, .int a3] [] σ Q = (if ((nI E.1) - (nI 6)) < a3 then WP E d mLa_law 1794 [.ref 1000, .ref 0, .ref 166, .int a3] [] σ Q else WP E d mLa_law 27 [.ref 1000, .ref 0, .ref 166, .int a3] [] σ Q) := (w_iload_n dLa_law_18 rfl).trans ((w_aload_n dLa_law_19 rfl).trans ((w_len dLa_law_20 aLen_0).trans ((w_bipush (v := (nI 6)) dLa_law_21 rfl).trans ((w_isub dLa_law_23).trans (w_icmpgt (t := 1794) dLa_law_24 (by decide))))))
theorem bLa_law_27 {E : mEn} {d : Nat} {σ : mSt} {Q : mPost} {a3 : Int32} : WP E d mLa_law 27 [.ref 1000, .ref 0, .ref 166, .int a3] [] σ Q = (if mOut a3 E.1 = true then False else WP E d mLa_law 33 [.ref 1000, .ref 0, .ref 166, .int a3] [.int ((E.2 a3.toNatClampNeg) &&& (nI 63))] σ Q) := (w_aload_n dLa_law_27 rfl).trans ((w_iload_n dLa_law_28 rfl).trans ((w_iald0 dLa_law_29).trans (ite_c ((w_bipush (v := (nI 63)) dLa_law_30 rfl).trans (w_iand dLa_law_32)))))
theorem bLa_law_27_s0 {E : mEn} {d : Nat} {σ : mSt} {Q : mPost} {b3 : Int32} : WP E d mLa_law 33 [.ref 1000, .ref 0, .ref 166, .int b3] [.int (nI 0)] σ Q = WP E d mLa_law 236 [.ref 1000, .ref 0, .ref 166, .int b3] [] σ Q := w_swK 0 dLa_law_33 (by decide) (by decide) (by decide) rfl (by decide)
theorem bLa_law_27_s1 {E : mEn} {d : Nat} {σ : mSt} {Q : mPost} {b3 : Int32} : WP E d mLa_law 33 [.ref 1000, .ref 0, .ref 166, .int b3] [.int (nI 1)] σ Q = WP E d mLa_law 249 [.ref 1000, .ref 0, .ref 166, .int b3] [] σ Q := w_swK 1 dLa_law_33 (by decide) (by decide) (by decide) rfl (by decide)
theorem bLa_law_27_s2 {E : mEn} {d : Nat} {σ : mSt} {Q : mPost} {b3 : Int32} : WP E d mLa_law 33 [.ref 1000, .ref 0, .ref 166, .int b3] [.int (nI 2)] σ Q = WP E d mLa_law 263 [.ref 1000, .ref 0, .ref 166, .int b3] [] σ Q := w_swK 2 dLa_law_33 (by decide) (by decide) (by decide) rfl (by decide)
theorem bLa_law_27_s3 {E : mEn} {d : Nat} {σ : mSt} {Q : mPost} {b3 : Int32} : WP E d mLa_law 33 [.ref 1000, .ref 0, .ref 166, .int b3] [.int (nI 3)] σ Q = WP E d mLa_law 277 [.ref 1000, .ref 0, .ref 166, .int b3] [] σ Q := w_swK 3 dLa_law_33 (by decide) (by decide) (by decide) rfl (by decide)
theorem bLa_law_27_s4 {E : mEn} {d : Nat} {σ : mSt} {Q : mPost} {b3 : Int32} : WP E d mLa_law 33 [.ref 1000, .ref 0, .ref 166, .int b3] [.int (nI 4)] σ Q = WP E d mLa_law 320 [.ref 1000, .ref 0, .ref 166, .int b3] [] σ Q := w_swK 4 dLa_law_33 (by decide) (by decide) (by decide) rfl (by decide)
theorem bLa_law_27_s5 {E : mEn} {d : Nat} {σ : mSt} {Q : mPost} {b3 : Int32} : WP E d mLa_law 33 [.ref 1000, .ref 0, .ref 166, .int b3] [.int (nI 5)] σ Q = WP E d mLa_law 393 [.ref 1000, .ref 0, .ref 166, .int b3] [] σ Q := w_swK 5 dLa_law_33 (by decide) (by decide) (by decide) rfl (by decide)
theorem bLa_law_27_s6 {E : mEn} {d : Nat} {σ : mSt} {Q : mPost} {b3 : Int32} : WP E d mLa_law 33 [.ref 1000, .ref 0, .ref 166, .int b3] [.int (nI 6)] σ Q = WP E d mLa_law 427 [.ref 1000, .ref 0, .ref 166, .int b3] [] σ Q := w_swK 6 dLa_law_33 (by decide) (by decide) (by decide) rfl (by decide)
theorem bLa_law_27_s7 {E : mEn} {d : Nat} {σ : mSt} {Q : mPost} {b3 : Int32} : WP E d mLa_law 33 [.ref 1000, .ref 0, .ref 166, .int b3] [.int (nI 7)] σ Q = WP E d mLa_law 490 [.ref 1000, .ref 0, .ref 166, .int b3] [] σ Q := w_swK 7 dLa_law_33 (by decide) (by decide) (by decide) rfl (by decide)
theorem bLa_law_27_s8 {E : mEn} {d : Nat} {σ : mSt} {Q : mPost} {b3 : Int32} : WP E d mLa_law 33 [.ref 1000, .ref 0, .ref 166, .int b3] [.int (nI 8)] σ Q = WP E d mLa_law 553 [.ref 1000, .ref 0, .ref 166, .int b3] [] σ Q := w_swK 8 dLa_law_33 (by decide) (by decide) (by decide) rfl (by decide)
theorem bLa_law_27_s9 {E : mEn} {d : Nat} {σ : mSt} {Q : mPost} {b3 : Int32} : WP E d mLa_law 33 [.ref 1000, .ref 0, .ref 166, .int b3] [.int (nI 9)] σ Q = WP E d mLa_law 576 [.ref 1000, .ref 0, .ref 166, .int b3] [] σ Q := w_swK 9 dLa_law_33 (by decide) (by decide) (by decide) rfl (by decide)
theorem bLa_law_27_s10 {E : mEn} {d : Nat} {σ : mSt} {Q : mPost} {b3 : Int32} : WP E d mLa_law 33 [.ref 1000, .ref 0, .ref 166, .int b3] [.int (nI 10)] σ Q = WP E d mLa_law 599 [.ref 1000, .ref 0, .ref 166, .int b3] [] σ Q := w_swK 10 dLa_law_33 (by decide) (by decide) (by decide) rfl (by decide)
theorem bLa_law_27_s11 {E : mEn} {d : Nat} {σ : mSt} {Q : mPost} {b3 : Int32} : WP E d mLa_law 33 [.ref 1000, .ref 0, .ref 166, .int b3] [.int (nI 11)] σ Q = WP E d mLa_law 622 [.ref 1000, .ref 0, .ref 166, .int b3] [] σ Q := w_swK 11 dLa_law_33 (by decide) (by decide) (by decide) rfl (by decide)
theorem bLa_law_27_s12 {E : mEn} {d : Nat} {σ : mSt} {Q : mPost} {b3 : Int32} : WP E d mLa_law 33 [.ref 1000, .ref 0, .ref 166, .int b3] [.int (nI 12)] σ Q = WP E d mLa_law 645 [.ref 1000, .ref 0, .ref 166, .int b3] [] σ Q := w_swK 12 dLa_law_33 (by decide) (by decide) (by decide) rfl (by decide)
theorem bLa_law_27_s13 {E : mEn} {d : Nat} {σ : mSt} {Q : mPost} {b3 : Int32} : WP E d mLa_law 33 [.ref 1000, .ref 0, .ref 166, .int b3] [.int (nI 13)] σ Q = WP E d mLa_law 678 [.ref 1000, .ref 0, .ref 166, .int b3] [] σ Q := w_swK 13 dLa_law_33 (by decide) (by decide) (by decide) rfl (by decide)
theorem bLa_law_27_s14 {E : mEn} {d : Nat} {σ : mSt} {Q : mPost} {b3 : Int32} : WP E d mLa_law 33 [.ref 1000, .ref 0, .ref 166, .int b3] [.int (nI 14)] σ Q = WP E d mLa_law 711 [.ref 1000, .ref 0, .ref 166, .int b3] [] σ Q := w_swK 14 dLa_law_33 (by decide) (by decide) (by decide) rfl (by decide)
theorem bLa_law_27_s15 {E : mEn} {d : Nat} {σ : mSt} {Q : mPost} {b3 : Int32} : WP E d mLa_law 33 [.ref 1000, .ref 0, .ref 166, .int b3] [.int (nI 15)] σ Q = WP E d mLa_law 744 [.ref 1000, .ref 0, .ref 166, .int b3] [] σ Q := w_swK 15 dLa_law_33 (by decide) (by decide) (by decide) rfl (by decide)
theorem bLa_law_27_s16 {E : mEn} {d : Nat} {σ : mSt} {Q : mPost} {b3 : Int32} : WP E d mLa_law 33 [.ref 1000, .ref 0, .ref 166, .int b3] [.int (nI 16)] σ Q = WP E d mLa_law 777 [.ref 1000, .ref 0, .ref 166, .int b3] [] σ Q := w_swK 16 dLa_law_33 (by decide) (by decide) (by decide) rfl (by decide)
theorem bLa_law_27_s17 {E : mEn} {d : Nat} {σ : mSt} {Q : mPost} {b3 : Int32} : WP E d mLa_law 33 [.ref 1000, .ref 0, .ref 166, .int b3] [.int (nI 17)] σ Q = WP E d mLa_law 800 [.ref 1000, .ref 0, .ref 166, .int b3] [] σ Q := w_swK 17 dLa_law_33 (by decide) (by decide) (by decide) rfl (by decide)
theorem bLa_law_27_s18 {E : mEn} {d : Nat} {σ : mSt} {Q : mPost} {b3 : Int32} : WP E d mLa_law 33 [.ref 1000, .ref 0, .ref 166, .int b3] [.int (nI 18)] σ Q = WP E d mLa_law 843 [.ref 1000, .ref 0, .ref 166, .int b3] [] σ Q := w_swK 18 dLa_law_33 (by decide) (by decide) (by decide) rfl (by decide)
theorem bLa_law_27_s19 {E : mEn} {d : Nat} {σ : mSt} {Q : mPost} {b3 : Int32} : WP E d mLa_law 33 [.ref 1000, .ref 0, .ref 166, .int b3] [.int (nI 19)] σ Q = WP E d mLa_law 876 [.ref 1000, .ref 0, .ref 166, .int b3] [] σ Q := w_swK 19 dLa_law_33 (by decide) (by decide) (by decide) rfl (by decide)
theorem bLa_law_27_s20 {E : mEn} {d : Nat} {σ : mSt} {Q : mPost} {b3 : Int32} : WP E d mLa_law 33 [.ref 1000, .ref 0, .ref 166, .int b3] [.int (nI 20)] σ Q = WP E d mLa_law 935 [.ref 1000, .ref 0, .ref 166, .int b3] [] σ Q := w_swK 20 dLa_law_33 (by decide) (by decide) (by decide) rfl (by decide)
theorem bLa_law_27_s21 {E : mEn} {d : Nat} {σ : mSt} {Q : mPost} {b3 : Int32} : WP E d mLa_law 33 [.ref 1000, .ref 0, .ref 166, .int b3] [.int (nI 21)] σ Q = WP E d mLa_law 958 [.ref 1000, .ref 0, .ref 166, .int b3] [] σ Q := w_swK 21 dLa_law_33 (by decide) (by decide) (by decide) rfl (by decide)
theorem bLa_law_27_s22 {E : mEn} {d : Nat} {σ : mSt} {Q : mPost} {b3 : Int32} : WP E d mLa_law 33 [.ref 1000, .ref 0, .ref 166, .int b3] [.int (nI 22)] σ Q = WP E d mLa_law 991 [.ref 1000, .ref 0, .ref 166, .int b3] [] σ Q := w_swK 22 dLa_law_33 (by decide) (by decide) (by decide) rfl (by decide)
theorem bLa_law_27_s23 {E : mEn} {d : Nat} {σ : mSt} {Q : mPost} {b3 : Int32} : WP E d mLa_law 33 [.ref 1000, .ref 0, .ref 166, .int b3] [.int (nI 23)] σ Q = WP E d mLa_law 1050 [.ref 1000, .ref 0, .ref 166, .int b3] [] σ Q := w_swK 23 dLa_law_33 (by decide) (by decide) (by decide) rfl (by decide)
theorem bLa_law_27_s24 {E : mEn} {d : Nat} {σ : mSt} {Q : mPost} {b3 : Int32} : WP E d mLa_law 33 [.ref 1000, .ref 0, .ref 166, .int b3] [.int (nI 24)] σ Q = WP E d mLa_law 1099 [.ref 1000, .ref 0, .ref 166, .int b3] [] σ Q := w_swK 24 dLa_law_33 (by decide) (by decide) (by decide) rfl (by decide)
theorem bLa_law_27_s25 {E : mEn} {d : Nat} {σ : mSt} {Q : mPost} {b3 : Int32} : WP E d mLa_law 33 [.ref 1000, .ref 0, .ref 166, .int b3] [.int (nI 25)] σ Q = WP E d mLa_law 1142 [.ref 1000, .ref 0, .ref 166, .int b3] [] σ Q := w_swK 25 dLa_law_33 (by decide) (by decide) (by decide) rfl (by decide)
theorem bLa_law_27_s26 {E : mEn} {d : Nat} {σ : mSt} {Q : mPost} {b3 : Int32} : WP E d mLa_law 33 [.ref 1000, .ref 0, .ref 166, .int b3] [.int (nI 26)] σ Q = WP E d mLa_law 1165 [.ref 1000, .ref 0, .ref 166, .int b3] [] σ Q := w_swK 26 dLa_law_33 (by decide) (by decide) (by decide) rfl (by decide)
theorem bLa_law_27_s27 {E : mEn} {d : Nat} {σ : mSt} {Q : mPost} {b3 : Int32} : WP E d mLa_law 33 [.ref 1000, .ref 0, .ref 166, .int b3] [.int (nI 27)] σ Q = WP E d mLa_law 1178 [.ref 1000, .ref 0, .ref 166, .int b3] [] σ Q := w_swK 27 dLa_law_33 (by decide) (by decide) (by decide) rfl (by decide)
theorem bLa_law_27_s28 {E : mEn} {d : Nat} {σ : mSt} {Q : mPost} {b3 : Int32} : WP E d mLa_law 33 [.ref 1000, .ref 0, .ref 166, .int b3] [.int (nI 28)] σ Q = WP E d mLa_law 1191 [.ref 1000, .ref 0, .ref 166, .int b3] [] σ Q := w_swK 28 dLa_law_33 (by decide) (by decide) (by decide) rfl (by decide)
theorem bLa_law_27_s29 {E : mEn} {d : Nat} {σ : mSt} {Q : mPost} {b3 : Int32} : WP E d mLa_law 33 [.ref 1000, .ref 0, .ref 166, .int b3] [.int (nI 29)] σ Q = WP E d mLa_law 1214 [.ref 1000, .ref 0, .ref 166, .int b3] [] σ Q := w_swK 29 dLa_law_33 (by decide) (by decide) (by decide) rfl (by decide)
theorem bLa_law_27_s30 {E : mEn} {d : Nat} {σ : mSt} {Q : mPost} {b3 : Int32} : WP E d mLa_law 33 [.ref 1000, .ref 0, .ref 166, .int b3] [.int (nI 30)] σ Q = WP E d mLa_law 1237 [.ref 1000, .ref 0, .ref 166, .int b3] [] σ Q := w_swK 30 dLa_law_33 (by decide) (by decide) (by decide) rfl (by decide)
theorem bLa_law_27_s31 {E : mEn} {d : Nat} {σ : mSt} {Q : mPost} {b3 : Int32} : WP E d mLa_law 33 [.ref 1000, .ref 0, .ref 166, .int b3] [.int (nI 31)] σ Q = WP E d mLa_law 1280 [.ref 1000, .ref 0, .ref 166, .int b3] [] σ Q := w_swK 31 dLa_law_33 (by decide) (by decide) (by decide) rfl (by decide)
theorem bLa_law_27_s32 {E : mEn} {d : Nat} {σ : mSt} {Q : mPost} {b3 : Int32} : WP E d mLa_law 33 [.ref 1000, .ref 0, .ref 166, .int b3] [.int (nI 32)] σ Q = WP E d mLa_law 1293 [.ref 1000, .ref 0, .ref 166, .int b3] [] σ Q := w_swK 32 dLa_law_33 (by decide) (by decide) (by decide) rfl (by decide)
theorem bLa_law_27_s33 {E : mEn} {d : Nat} {σ : mSt} {Q : mPost} {b3 : Int32} : WP E d mLa_law 33 [.ref 1000, .ref 0, .ref 166, .int b3] [.int (nI 33)] σ Q = WP E d mLa_law 1336 [.ref 1000, .ref 0, .ref 166, .int b3] [] σ Q := w_swK 33 dLa_law_33 (by decide) (by decide) (by decide) rfl (by decide)
theorem bLa_law_27_s34 {E : mEn} {d : Nat} {σ : mSt} {Q : mPost} {b3 : Int32} : WP E d mLa_law 33 [.ref 1000, .ref 0, .ref 166, .int b3] [.int (nI 34)] σ Q = WP E d mLa_law 1349 [.ref 1000, .ref 0, .ref 166, .int b3] [] σ Q := w_swK 34 dLa_law_33 (by decide) (by decide) (by decide) rfl (by decide)
theorem bLa_law_27_s35 {E : mEn} {d : Nat} {σ : mSt} {Q : mPost} {b3 : Int32} : WP E d mLa_law 33 [.ref 1000, .ref 0, .ref 166, .int b3] [.int (nI 35)] σ Q = WP E d mLa_law 1412 [.ref 1000, .ref 0, .ref 166, .int b3] [] σ Q := w_swK 35 dLa_law_33 (by decide) (by decide) (by decide) rfl (by decide)
theorem bLa_law_27_s36 {E : mEn} {d : Nat} {σ : mSt} {Q : mPost} {b3 : Int32} : WP E d mLa_law 33 [.ref 1000, .ref 0, .ref 166, .int b3] [.int (nI 36)] σ Q = WP E d mLa_law 1455 [.ref 1000, .ref 0, .ref 166, .int b3] [] σ Q := w_swK 36 dLa_law_33 (by decide) (by decide) (by decide) rfl (by decide)
theorem bLa_law_27_s37 {E : mEn} {d : Nat} {σ : mSt} {Q : mPost} {b3 : Int32} : WP E d mLa_law 33 [.ref 1000, .ref 0, .ref 166, .int b3] [.int (nI 37)] σ Q = WP E d mLa_law 1518 [.ref 1000, .ref 0, .ref 166, .int b3] [] σ Q := w_swK 37 dLa_law_33 (by decide) (by decide) (by decide) rfl (by decide)
theorem bLa_law_27_s38 {E : mEn} {d : Nat} {σ : mSt} {Q : mPost} {b3 : Int32} : WP E d mLa_law 33 [.ref 1000, .ref 0, .ref 166, .int b3] [.int (nI 38)] σ Q = WP E d mLa_law 1541 [.ref 1000, .ref 0, .ref 166, .int b3] [] σ Q := w_swK 38 dLa_law_33 (by decide) (by decide) (by decide) rfl (by decide)
theorem bLa_law_27_s39 {E : mEn} {d : Nat} {σ : mSt} {Q : mPost} {b3 : Int32} : WP E d mLa_law 33 [.ref 1000, .ref 0, .ref 166, .int b3] [.int (nI 39)] σ Q = WP E d mLa_law 1564 [.ref 1000, .ref 0, .ref 166, .int b3] [] σ Q := w_swK 39 dLa_law_33 (by decide) (by decide) (by decide) rfl (by decide)
theorem bLa_law_27_s40 {E : mEn} {d : Nat} {σ : mSt} {Q : mPost} {b3 : Int32} : WP E d mLa_law 33 [.ref 1000, .ref 0, .ref 166, .int b3] [.int (nI 40)] σ Q = WP E d mLa_law 1587 [.ref 1000, .ref 0, .ref 166, .int b3] [] σ Q := w_swK 40 dLa_law_33 (by decide) (by decide) (by decide) rfl (by decide)
theorem bLa_law_27_s41 {E : mEn} {d : Nat} {σ : mSt} {Q : mPost} {b3 : Int32} : WP E d mLa_law 33 [.ref 1000, .ref 0, .ref 166, .int b3] [.int (nI 41)] σ Q = WP E d mLa_law 1620 [.ref 1000, .ref 0, .ref 166, .int b3] [] σ Q := w_swK 41 dLa_law_33 (by decide) (by decide) (by decide) rfl (by decide)
theorem bLa_law_27_s42 {E : mEn} {d : Nat} {σ : mSt} {Q : mPost} {b3 : Int32} : WP E d mLa_law 33 [.ref 1000, .ref 0, .ref 166, .int b3] [.int (nI 42)] σ Q = WP E d mLa_law 1663 [.ref 1000, .ref 0, .ref 166, .int b3] [] σ Q := w_swK 42 dLa_law_33 (by decide) (by decide) (by decide) rfl (by decide)
theorem bLa_law_27_s43 {E : mEn} {d : Nat} {σ : mSt} {Q : mPost} {b3 : Int32} : WP E d mLa_law 33 [.ref 1000, .ref 0, .ref 166, .int b3] [.int (nI 43)] σ Q = WP E d mLa_law 1686 [.ref 1000, .ref 0, .ref 166, .int b3] [] σ Q := w_swK 43 dLa_law_33 (by decide) (by decide) (by decide) rfl (by decide)
theorem bLa_law_27_s44 {E : mEn} {d : Nat} {σ : mSt} {Q : mPost} {b3 : Int32} : WP E d mLa_law 33 [.ref 1000, .ref 0, .ref 166, .int b3] [.int (nI 44)] σ Q = WP E d mLa_law 1709 [.ref 1000, .ref 0, .ref 166, .int b3] [] σ Q := w_swK 44 dLa_law_33 (by decide) (by decide) (by decide) rfl (by decide)
theorem bLa_law_27_s45 {E : mEn} {d : Nat} {σ : mSt} {Q : mPost} {b3 : Int32} : WP E d mLa_law 33 [.ref 1000, .ref 0, .ref 166, .int b3] [.int (nI 45)] σ Q = WP E d mLa_law 1762 [.ref 1000, .ref 0, .ref 166, .int b3] [] σ Q := w_swK 45 dLa_law_33 (by decide) (by decide) (by decide) rfl (by decide)
theorem bLa_law_27_s46 {E : mEn} {d : Nat} {σ : mSt} {Q : mPost} {b3 : Int32} : WP E d mLa_law 33 [.ref 1000, .ref 0, .ref 166, .int b3] [.int (nI 46)] σ Q = WP E d mLa_law 1775 [.ref 1000, .ref 0, .ref 166, .int b3] [] σ Q := w_swK 46 dLa_law_33 (by decide) (by decide) (by decide) rfl (by decide)
theorem bLa_law_27_sD {E : mEn} {d : Nat} {σ : mSt} {Q : mPost} {b3 : Int32} {x : Int32} (hne : ∀ k : Nat, 0 ≤ k → k ≤ 46 → x ≠ nI k) : WP E d mLa_law 33 [.ref 1000, .ref 0, .ref 166, .int b3] [.int x] σ Q = WP E d mLa_law 1788 [.ref 1000, .ref 0, .ref 166, .int b3] [] σ Q := w_swD dLa_law_33 (by decide) hne (by decide)
theorem bLa_law_236 {E : mEn} {d : Nat} {σ : mSt} {Q : mPost} {a3 : Int32} : WP E (d + 1) mLa_law 236 [.ref 1000, .ref 0, .ref 166, .int a3] [] σ Q = WP E d mPb_status 0 [.ref 0] [] σ (fun r σ' => WP E (d + 1) mLa_law 240 [.ref 1000, .ref 0, .ref 166, .int a3] (r.toList ++ []) σ' Q) := (w_aload_n dLa_law_236 rfl).trans (w_virt (vs := []) (st' := []) (es := [.ref 0]) dLa_law_237 rz12_13 rfl sh_0 rfl rfl rfl (Nat.le_of_ble_eq_true rfl) (Nat.le_of_ble_eq_true rfl) rfl)
theorem bLa_law_240 {E : mEn} {d : Nat} {σ : mSt} {Q : mPost} {a3 : Int32} {s0 : Int32} : WP E (d + 1) mLa_law 240 [.ref 1000, .ref 0, .ref 166, .int a3] [.int s0] σ Q = WP E d mMo_status 0 [.ref 166] [] σ (fun r σ' => WP E (d + 1) mLa_law 244 [.ref 1000, .ref 0, .ref 166, .int a3] (r.toList ++ [.int s0]) σ' Q) := (w_aload_n dLa_law_240 rfl).trans (w_virt (vs := []) (st' := [.int s0]) (es := [.ref 166]) dLa_law_241 rz12_17 rfl sh_166 rfl rfl rfl (Nat.le_of_ble_eq_true rfl) (Nat.le_of_ble_eq_true rfl) rfl)
theorem bLa_law_244 {E : mEn} {d : Nat} {σ : mSt} {Q : mPost} {a3 : Int32} {s0 : Int32} {s1 : Int32} : WP E d mLa_law 244 [.ref 1000, .ref 0, .ref 166, .int a3] [.int s0, .int s1] σ Q = (if s1 = s0 then WP E d mLa_law 1788 [.ref 1000, .ref 0, .ref 166, .int a3] [] σ Q else WP E d mLa_law 247 [.ref 1000, .ref 0, .ref 166, .int a3] [] σ Q) := w_icmpeq (t := 1788) dLa_law_244 (by decide)
theorem bLa_law_247 {E : mEn} {d : Nat} {σ : mSt} {Q : mPost} {a3 : Int32} : WP E d mLa_law 247 [.ref 1000, .ref 0, .ref 166, .int a3] [] σ Q = Q (some (.int 0)) σ := (w_iconst (v := 0) dLa_law_247 rfl).trans (w_zret dLa_law_248 rfl (Or.inl rfl))
theorem bLa_law_249 {E : mEn} {d : Nat} {σ : mSt} {Q : mPost} {a3 : Int32} : WP E (d + 1) mLa_law 249 [.ref 1000, .ref 0, .ref 166, .int a3] [] σ Q = WP E d mPb_top 0 [.ref 0] [] σ (fun r σ' => WP E (d + 1) mLa_law 253 [.ref 1000, .ref 0, .ref 166, .int a3] (r.toList ++ []) σ' Q) := (w_aload_n dLa_law_249 rfl).trans (w_virt (vs := []) (st' := []) (es := [.ref 0]) dLa_law_250 rz12_18 rfl sh_0 rfl rfl rfl (Nat.le_of_ble_eq_true rfl) (Nat.le_of_ble_eq_true rfl) rfl)
theorem bLa_law_253 {E : mEn} {d : Nat} {σ : mSt} {Q : mPost} {a3 : Int32} {q0 : Int64} : WP E (d + 1) mLa_law 253 [.ref 1000, .ref 0, .ref 166, .int a3] [.long q0] σ Q = WP E d mMo_top 0 [.ref 166] [] σ (fun r σ' => WP E (d + 1) mLa_law 257 [.ref 1000, .ref 0, .ref 166, .int a3] (r.toList ++ [.long q0]) σ' Q) := (w_aload_n dLa_law_253 rfl).trans (w_virt (vs := []) (st' := [.long q0]) (es := [.ref 166]) dLa_law_254 rz12_22 rfl sh_166 rfl rfl rfl (Nat.le_of_ble_eq_true rfl) (Nat.le_of_ble_eq_true rfl) rfl)
theorem bLa_law_257 {E : mEn} {d : Nat} {σ : mSt} {Q : mPost} {a3 : Int32} {q0 : Int64} {q1 : Int64} : WP E d mLa_law 257 [.ref 1000, .ref 0, .ref 166, .int a3] [.long q0, .long q1] σ Q = (if (lg_cmp q1 q0) = 0 then WP E d mLa_law 1788 [.ref 1000, .ref 0, .ref 166, .int a3] [] σ Q else WP E d mLa_law 261 [.ref 1000, .ref 0, .ref 166, .int a3] [] σ Q) := (w_lcmp dLa_law_257).trans (w_ifeq (t := 1788) dLa_law_258 (by decide))
theorem bLa_law_261 {E : mEn} {d : Nat} {σ : mSt} {Q : mPost} {a3 : Int32} : WP E d mLa_law 261 [.ref 1000, .ref 0, .ref 166, .int a3] [] σ Q = Q (some (.int 0)) σ := (w_iconst (v := 0) dLa_law_261 rfl).trans (w_zret dLa_law_262 rfl (Or.inl rfl))
theorem bLa_law_263 {E : mEn} {d : Nat} {σ : mSt} {Q : mPost} {a3 : Int32} : WP E (d + 1) mLa_law 263 [.ref 1000, .ref 0, .ref 166, .int a3] [] σ Q = WP E d mPb_bottom 0 [.ref 0] [] σ (fun r σ' => WP E (d + 1) mLa_law 267 [.ref 1000, .ref 0, .ref 166, .int a3] (r.toList ++ []) σ' Q) := (w_aload_n dLa_law_263 rfl).trans (w_virt (vs := []) (st' := []) (es := [.ref 0]) dLa_law_264 rz12_23 rfl sh_0 rfl rfl rfl (Nat.le_of_ble_eq_true rfl) (Nat.le_of_ble_eq_true rfl) rfl)
theorem bLa_law_267 {E : mEn} {d : Nat} {σ : mSt} {Q : mPost} {a3 : Int32} {q0 : Int64} : WP E (d + 1) mLa_law 267 [.ref 1000, .ref 0, .ref 166, .int a3] [.long q0] σ Q = WP E d mMo_bottom 0 [.ref 166] [] σ (fun r σ' => WP E (d + 1) mLa_law 271 [.ref 1000, .ref 0, .ref 166, .int a3] (r.toList ++ [.long q0]) σ' Q) := (w_aload_n dLa_law_267 rfl).trans (w_virt (vs := []) (st' := [.long q0]) (es := [.ref 166]) dLa_law_268 rz12_26 rfl sh_166 rfl rfl rfl (Nat.le_of_ble_eq_true rfl) (Nat.le_of_ble_eq_true rfl) rfl)
theorem bLa_law_271 {E : mEn} {d : Nat} {σ : mSt} {Q : mPost} {a3 : Int32} {q0 : Int64} {q1 : Int64} : WP E d mLa_law 271 [.ref 1000, .ref 0, .ref 166, .int a3] [.long q0, .long q1] σ Q = (if (lg_cmp q1 q0) = 0 then WP E d mLa_law 1788 [.ref 1000, .ref 0, .ref 166, .int a3] [] σ Q else WP E d mLa_law 275 [.ref 1000, .ref 0, .ref 166, .int a3] [] σ Q) := (w_lcmp dLa_law_271).trans (w_ifeq (t := 1788) dLa_law_272 (by decide))
theorem bLa_law_275 {E : mEn} {d : Nat} {σ : mSt} {Q : mPost} {a3 : Int32} : WP E d mLa_law 275 [.ref 1000, .ref 0, .ref 166, .int a3] [] σ Q = Q (some (.int 0)) σ := (w_iconst (v := 0) dLa_law_275 rfl).trans (w_zret dLa_law_276 rfl (Or.inl rfl))
theorem bLa_law_277 {E : mEn} {d : Nat} {σ : mSt} {Q : mPost} {a3 : Int32} : WP E (d + 1) mLa_law 277 [.ref 1000, .ref 0, .ref 166, .int a3] [] σ Q = (if mOut (a3 + 1) E.1 = true then False else (if mOut (a3 + (nI 2)) E.1 = true then False else (if mOut (a3 + (nI 3)) E.1 = true then False else WP E d mPb_tray 0 [.ref 0, .int (E.2 (a3 + 1).toNatClampNeg), .int (E.2 (a3 + (nI 2)).toNatClampNeg), .int (E.2 (a3 + (nI 3)).toNatClampNeg)] [] σ (fun r σ' => WP E (d + 1) mLa_law 296 [.ref 1000, .ref 0, .ref 166, .int a3] (r.toList ++ []) σ' Q)))) := (w_aload_n dLa_law_277 rfl).trans ((w_aload_n dLa_law_278 rfl).trans ((w_iload_n dLa_law_279 rfl).trans ((w_iconst (v := 1) dLa_law_280 rfl).trans ((w_iadd dLa_law_281).trans ((w_iald0 dLa_law_282).trans (ite_c ((w_aload_n dLa_law_283 rfl).trans ((w_iload_n dLa_law_284 rfl).trans ((w_iconst (v := (nI 2)) dLa_law_285 rfl).trans ((w_iadd dLa_law_286).trans ((w_iald0 dLa_law_287).trans (ite_c ((w_aload_n dLa_law_288 rfl).trans ((w_iload_n dLa_law_289 rfl).trans ((w_iconst (v := (nI 3)) dLa_law_290 rfl).trans ((w_iadd dLa_law_291).trans ((w_iald0 dLa_law_292).trans (ite_c (w_virt (vs := [.int (E.2 (a3 + 1).toNatClampNeg), .int (E.2 (a3 + (nI 2)).toNatClampNeg), .int (E.2 (a3 + (nI 3)).toNatClampNeg)]) (st' := []) (es := [.ref 0, .int (E.2 (a3 + 1).toNatClampNeg), .int (E.2 (a3 + (nI 2)).toNatClampNeg), .int (E.2 (a3 + (nI 3)).toNatClampNeg)]) dLa_law_293 rz12_27 rfl sh_0 rfl rfl rfl (Nat.le_of_ble_eq_true rfl) (Nat.le_of_ble_eq_true rfl) rfl)))))))))))))))))))
theorem bLa_law_296 {E : mEn} {d : Nat} {σ : mSt} {Q : mPost} {a3 : Int32} {s0 : Int32} : WP E (d + 1) mLa_law 296 [.ref 1000, .ref 0, .ref 166, .int a3] [.int s0] σ Q = (if mOut (a3 + 1) E.1 = true then False else (if mOut (a3 + (nI 2)) E.1 = true then False else (if mOut (a3 + (nI 3)) E.1 = true then False else WP E d mMo_tray 0 [.ref 166, .int (E.2 (a3 + 1).toNatClampNeg), .int (E.2 (a3 + (nI 2)).toNatClampNeg), .int (E.2 (a3 + (nI 3)).toNatClampNeg), uu] [] σ (fun r σ' => WP E (d + 1) mLa_law 315 [.ref 1000, .ref 0, .ref 166, .int a3] (r.toList ++ [.int s0]) σ' Q)))) := (w_aload_n dLa_law_296 rfl).trans ((w_aload_n dLa_law_297 rfl).trans ((w_iload_n dLa_law_298 rfl).trans ((w_iconst (v := 1) dLa_law_299 rfl).trans ((w_iadd dLa_law_300).trans ((w_iald0 dLa_law_301).trans (ite_c ((w_aload_n dLa_law_302 rfl).trans ((w_iload_n dLa_law_303 rfl).trans ((w_iconst (v := (nI 2)) dLa_law_304 rfl).trans ((w_iadd dLa_law_305).trans ((w_iald0 dLa_law_306).trans (ite_c ((w_aload_n dLa_law_307 rfl).trans ((w_iload_n dLa_law_308 rfl).trans ((w_iconst (v := (nI 3)) dLa_law_309 rfl).trans ((w_iadd dLa_law_310).trans ((w_iald0 dLa_law_311).trans (ite_c (w_virt (vs := [.int (E.2 (a3 + 1).toNatClampNeg), .int (E.2 (a3 + (nI 2)).toNatClampNeg), .int (E.2 (a3 + (nI 3)).toNatClampNeg)]) (st' := [.int s0]) (es := [.ref 166, .int (E.2 (a3 + 1).toNatClampNeg), .int (E.2 (a3 + (nI 2)).toNatClampNeg), .int (E.2 (a3 + (nI 3)).toNatClampNeg), uu]) dLa_law_312 rz12_31 rfl sh_166 rfl rfl rfl (Nat.le_of_ble_eq_true rfl) (Nat.le_of_ble_eq_true rfl) rfl)))))))))))))))))))
theorem bLa_law_315 {E : mEn} {d : Nat} {σ : mSt} {Q : mPost} {a3 : Int32} {s0 : Int32} {s1 : Int32} : WP E d mLa_law 315 [.ref 1000, .ref 0, .ref 166, .int a3] [.int s0, .int s1] σ Q = (if s1 = s0 then WP E d mLa_law 1788 [.ref 1000, .ref 0, .ref 166, .int a3] [] σ Q else WP E d mLa_law 318 [.ref 1000, .ref 0, .ref 166, .int a3] [] σ Q) := w_icmpeq (t := 1788) dLa_law_315 (by decide)
theorem bLa_law_318 {E : mEn} {d : Nat} {σ : mSt} {Q : mPost} {a3 : Int32} : WP E d mLa_law 318 [.ref 1000, .ref 0, .ref 166, .int a3] [] σ Q = Q (some (.int 0)) σ := (w_iconst (v := 0) dLa_law_318 rfl).trans (w_zret dLa_law_319 rfl (Or.inl rfl))
theorem bLa_law_320 {E : mEn} {d : Nat} {σ : mSt} {Q : mPost} {a3 : Int32} : WP E (d + 1) mLa_law 320 [.ref 1000, .ref 0, .ref 166, .int a3] [] σ Q = (if mOut (a3 + 1) E.1 = true then False else (if mOut (a3 + (nI 2)) E.1 = true then False else (if mOut (a3 + (nI 3)) E.1 = true then False else (if mOut (a3 + (nI 4)) E.1 = true then False else WP E d mPb_write 0 [.ref 0, .int (E.2 (a3 + 1).toNatClampNeg), .int (E.2 (a3 + (nI 2)).toNatClampNeg), .long ((((E.2 (a3 + (nI 3)).toNatClampNeg).toInt64) <<< ((nI 32).toInt64 &&& 63)) ||| (((E.2 (a3 + (nI 4)).toNatClampNeg).toInt64) &&& (4294967295))), uu, uu] [] σ (fun r σ' => WP E (d + 1) mLa_law 354 [.ref 1000, .ref 0, .ref 166, .int a3] (r.toList ++ []) σ' Q))))) := (w_aload_n dLa_law_320 rfl).trans ((w_aload_n dLa_law_321 rfl).trans ((w_iload_n dLa_law_322 rfl).trans ((w_iconst (v := 1) dLa_law_323 rfl).trans ((w_iadd dLa_law_324).trans ((w_iald0 dLa_law_325).trans (ite_c ((w_aload_n dLa_law_326 rfl).trans ((w_iload_n dLa_law_327 rfl).trans ((w_iconst (v := (nI 2)) dLa_law_328 rfl).trans ((w_iadd dLa_law_329).trans ((w_iald0 dLa_law_330).trans (ite_c ((w_aload_n dLa_law_331 rfl).trans ((w_iload_n dLa_law_332 rfl).trans ((w_iconst (v := (nI 3)) dLa_law_333 rfl).trans ((w_iadd dLa_law_334).trans ((w_iald0 dLa_law_335).trans (ite_c ((w_i2l dLa_law_336).trans ((w_bipush (v := (nI 32)) dLa_law_337 rfl).trans ((w_lshl dLa_law_339).trans ((w_aload_n dLa_law_340 rfl).trans ((w_iload_n dLa_law_341 rfl).trans ((w_iconst (v := (nI 4)) dLa_law_342 rfl).trans ((w_iadd dLa_law_343).trans ((w_iald0 dLa_law_344).trans (ite_c ((w_i2l dLa_law_345).trans ((w_ldc2_w dLa_law_346 rz12_32).trans ((w_land dLa_law_349).trans ((w_lor dLa_law_350).trans (w_virt (vs := [.int (E.2 (a3 + 1).toNatClampNeg), .int (E.2 (a3 + (nI 2)).toNatClampNeg), .long ((((E.2 (a3 + (nI 3)).toNatClampNeg).toInt64) <<< ((nI 32).toInt64 &&& 63)) ||| (((E.2 (a3 + (nI 4)).toNatClampNeg).toInt64) &&& (4294967295)))]) (st' := []) (es := [.ref 0, .int (E.2 (a3 + 1).toNatClampNeg), .int (E.2 (a3 + (nI 2)).toNatClampNeg), .long ((((E.2 (a3 + (nI 3)).toNatClampNeg).toInt64) <<< ((nI 32).toInt64 &&& 63)) ||| (((E.2 (a3 + (nI 4)).toNatClampNeg).toInt64) &&& (4294967295))), uu, uu]) dLa_law_351 rz12_34 rfl sh_0 rfl rfl rfl (Nat.le_of_ble_eq_true rfl) (Nat.le_of_ble_eq_true rfl) rfl))))))))))))))))))))))))))))))))
theorem bLa_law_354 {E : mEn} {d : Nat} {σ : mSt} {Q : mPost} {a3 : Int32} {s0 : Int32} : WP E (d + 1) mLa_law 354 [.ref 1000, .ref 0, .ref 166, .int a3] [.int s0] σ Q = (if mOut (a3 + 1) E.1 = true then False else (if mOut (a3 + (nI 2)) E.1 = true then False else (if mOut (a3 + (nI 3)) E.1 = true then False else (if mOut (a3 + (nI 4)) E.1 = true then False else WP E d mMo_write 0 [.ref 166, .int (E.2 (a3 + 1).toNatClampNeg), .int (E.2 (a3 + (nI 2)).toNatClampNeg), .long ((((E.2 (a3 + (nI 3)).toNatClampNeg).toInt64) <<< ((nI 32).toInt64 &&& 63)) ||| (((E.2 (a3 + (nI 4)).toNatClampNeg).toInt64) &&& (4294967295))), uu] [] σ (fun r σ' => WP E (d + 1) mLa_law 388 [.ref 1000, .ref 0, .ref 166, .int a3] (r.toList ++ [.int s0]) σ' Q))))) := (w_aload_n dLa_law_354 rfl).trans ((w_aload_n dLa_law_355 rfl).trans ((w_iload_n dLa_law_356 rfl).trans ((w_iconst (v := 1) dLa_law_357 rfl).trans ((w_iadd dLa_law_358).trans ((w_iald0 dLa_law_359).trans (ite_c ((w_aload_n dLa_law_360 rfl).trans ((w_iload_n dLa_law_361 rfl).trans ((w_iconst (v := (nI 2)) dLa_law_362 rfl).trans ((w_iadd dLa_law_363).trans ((w_iald0 dLa_law_364).trans (ite_c ((w_aload_n dLa_law_365 rfl).trans ((w_iload_n dLa_law_366 rfl).trans ((w_iconst (v := (nI 3)) dLa_law_367 rfl).trans ((w_iadd dLa_law_368).trans ((w_iald0 dLa_law_369).trans (ite_c ((w_i2l dLa_law_370).trans ((w_bipush (v := (nI 32)) dLa_law_371 rfl).trans ((w_lshl dLa_law_373).trans ((w_aload_n dLa_law_374 rfl).trans ((w_iload_n dLa_law_375 rfl).trans ((w_iconst (v := (nI 4)) dLa_law_376 rfl).trans ((w_iadd dLa_law_377).trans ((w_iald0 dLa_law_378).trans (ite_c ((w_i2l dLa_law_379).trans ((w_ldc2_w dLa_law_380 rz12_32).trans ((w_land dLa_law_383).trans ((w_lor dLa_law_384).trans (w_virt (vs := [.int (E.2 (a3 + 1).toNatClampNeg), .int (E.2 (a3 + (nI 2)).toNatClampNeg), .long ((((E.2 (a3 + (nI 3)).toNatClampNeg).toInt64) <<< ((nI 32).toInt64 &&& 63)) ||| (((E.2 (a3 + (nI 4)).toNatClampNeg).toInt64) &&& (4294967295)))]) (st' := [.int s0]) (es := [.ref 166, .int (E.2 (a3 + 1).toNatClampNeg), .int (E.2 (a3 + (nI 2)).toNatClampNeg), .long ((((E.2 (a3 + (nI 3)).toNatClampNeg).toInt64) <<< ((nI 32).toInt64 &&& 63)) ||| (((E.2 (a3 + (nI 4)).toNatClampNeg).toInt64) &&& (4294967295))), uu]) dLa_law_385 rz12_38 rfl sh_166 rfl rfl rfl (Nat.le_of_ble_eq_true rfl) (Nat.le_of_ble_eq_true rfl) rfl))))))))))))))))))))))))))))))))
theorem bLa_law_388 {E : mEn} {d : Nat} {σ : mSt} {Q : mPost} {a3 : Int32} {s0 : Int32} {s1 : Int32} : WP E d mLa_law 388 [.ref 1000, .ref 0, .ref 166, .int a3] [.int s0, .int s1] σ Q = (if s1 = s0 then WP E d mLa_law 1788 [.ref 1000, .ref 0, .ref 166, .int a3] [] σ Q else WP E d mLa_law 391 [.ref 1000, .ref 0, .ref 166, .int a3] [] σ Q) := w_icmpeq (t := 1788) dLa_law_388 (by decide)
theorem bLa_law_391 {E : mEn} {d : Nat} {σ : mSt} {Q : mPost} {a3 : Int32} : WP E d mLa_law 391 [.ref 1000, .ref 0, .ref 166, .int a3] [] σ Q = Q (some (.int 0)) σ := (w_iconst (v := 0) dLa_law_391 rfl).trans (w_zret dLa_law_392 rfl (Or.inl rfl))
theorem bLa_law_393 {E : mEn} {d : Nat} {σ : mSt} {Q : mPost} {a3 : Int32} : WP E (d + 1) mLa_law 393 [.ref 1000, .ref 0, .ref 166, .int a3] [] σ Q = (if mOut (a3 + 1) E.1 = true then False else (if mOut (a3 + (nI 2)) E.1 = true then False else WP E d mPb_read 0 [.ref 0, .int (E.2 (a3 + 1).toNatClampNeg), .int (E.2 (a3 + (nI 2)).toNatClampNeg), uu] [] σ (fun r σ' => WP E (d + 1) mLa_law 407 [.ref 1000, .ref 0, .ref 166, .int a3] (r.toList ++ []) σ' Q))) := (w_aload_n dLa_law_393 rfl).trans ((w_aload_n dLa_law_394 rfl).trans ((w_iload_n dLa_law_395 rfl).trans ((w_iconst (v := 1) dLa_law_396 rfl).trans ((w_iadd dLa_law_397).trans ((w_iald0 dLa_law_398).trans (ite_c ((w_aload_n dLa_law_399 rfl).trans ((w_iload_n dLa_law_400 rfl).trans ((w_iconst (v := (nI 2)) dLa_law_401 rfl).trans ((w_iadd dLa_law_402).trans ((w_iald0 dLa_law_403).trans (ite_c (w_virt (vs := [.int (E.2 (a3 + 1).toNatClampNeg), .int (E.2 (a3 + (nI 2)).toNatClampNeg)]) (st' := []) (es := [.ref 0, .int (E.2 (a3 + 1).toNatClampNeg), .int (E.2 (a3 + (nI 2)).toNatClampNeg), uu]) dLa_law_404 rz12_39 rfl sh_0 rfl rfl rfl (Nat.le_of_ble_eq_true rfl) (Nat.le_of_ble_eq_true rfl) rfl)))))))))))))
theorem bLa_law_407 {E : mEn} {d : Nat} {σ : mSt} {Q : mPost} {a3 : Int32} {q0 : Int64} : WP E (d + 1) mLa_law 407 [.ref 1000, .ref 0, .ref 166, .int a3] [.long q0] σ Q = (if mOut (a3 + 1) E.1 = true then False else (if mOut (a3 + (nI 2)) E.1 = true then False else WP E d mMo_read 0 [.ref 166, .int (E.2 (a3 + 1).toNatClampNeg), .int (E.2 (a3 + (nI 2)).toNatClampNeg)] [] σ (fun r σ' => WP E (d + 1) mLa_law 421 [.ref 1000, .ref 0, .ref 166, .int a3] (r.toList ++ [.long q0]) σ' Q))) := (w_aload_n dLa_law_407 rfl).trans ((w_aload_n dLa_law_408 rfl).trans ((w_iload_n dLa_law_409 rfl).trans ((w_iconst (v := 1) dLa_law_410 rfl).trans ((w_iadd dLa_law_411).trans ((w_iald0 dLa_law_412).trans (ite_c ((w_aload_n dLa_law_413 rfl).trans ((w_iload_n dLa_law_414 rfl).trans ((w_iconst (v := (nI 2)) dLa_law_415 rfl).trans ((w_iadd dLa_law_416).trans ((w_iald0 dLa_law_417).trans (ite_c (w_virt (vs := [.int (E.2 (a3 + 1).toNatClampNeg), .int (E.2 (a3 + (nI 2)).toNatClampNeg)]) (st' := [.long q0]) (es := [.ref 166, .int (E.2 (a3 + 1).toNatClampNeg), .int (E.2 (a3 + (nI 2)).toNatClampNeg)]) dLa_law_418 rz12_43 rfl sh_166 rfl rfl rfl (Nat.le_of_ble_eq_true rfl) (Nat.le_of_ble_eq_true rfl) rfl)))))))))))))
theorem bLa_law_421 {E : mEn} {d : Nat} {σ : mSt} {Q : mPost} {a3 : Int32} {q0 : Int64} {q1 : Int64} : WP E d mLa_law 421 [.ref 1000, .ref 0, .ref 166, .int a3] [.long q0, .long q1] σ Q = (if (lg_cmp q1 q0) = 0 then WP E d mLa_law 1788 [.ref 1000, .ref 0, .ref 166, .int a3] [] σ Q else WP E d mLa_law 425 [.ref 1000, .ref 0, .ref 166, .int a3] [] σ Q) := (w_lcmp dLa_law_421).trans (w_ifeq (t := 1788) dLa_law_422 (by decide))
theorem bLa_law_425 {E : mEn} {d : Nat} {σ : mSt} {Q : mPost} {a3 : Int32} : WP E d mLa_law 425 [.ref 1000, .ref 0, .ref 166, .int a3] [] σ Q = Q (some (.int 0)) σ := (w_iconst (v := 0) dLa_law_425 rfl).trans (w_zret dLa_law_426 rfl (Or.inl rfl))
theorem bLa_law_427 {E : mEn} {d : Nat} {σ : mSt} {Q : mPost} {a3 : Int32} : WP E (d + 1) mLa_law 427 [.ref 1000, .ref 0, .ref 166, .int a3] [] σ Q = (if mOut (a3 + 1) E.1 = true then False else (if mOut (a3 + (nI 2)) E.1 = true then False else (if mOut (a3 + (nI 3)) E.1 = true then False else (if mOut (a3 + (nI 4)) E.1 = true then False else (if mOut (a3 + (nI 5)) E.1 = true then False else WP E d mPb_pour 0 [.ref 0, .int (E.2 (a3 + 1).toNatClampNeg), .int (E.2 (a3 + (nI 2)).toNatClampNeg), .int (E.2 (a3 + (nI 3)).toNatClampNeg), .int (E.2 (a3 + (nI 4)).toNatClampNeg), .int (E.2 (a3 + (nI 5)).toNatClampNeg)] [] σ (fun r σ' => WP E (d + 1) mLa_law 456 [.ref 1000, .ref 0, .ref 166, .int a3] (r.toList ++ []) σ' Q)))))) := (w_aload_n dLa_law_427 rfl).trans ((w_aload_n dLa_law_428 rfl).trans ((w_iload_n dLa_law_429 rfl).trans ((w_iconst (v := 1) dLa_law_430 rfl).trans ((w_iadd dLa_law_431).trans ((w_iald0 dLa_law_432).trans (ite_c ((w_aload_n dLa_law_433 rfl).trans ((w_iload_n dLa_law_434 rfl).trans ((w_iconst (v := (nI 2)) dLa_law_435 rfl).trans ((w_iadd dLa_law_436).trans ((w_iald0 dLa_law_437).trans (ite_c ((w_aload_n dLa_law_438 rfl).trans ((w_iload_n dLa_law_439 rfl).trans ((w_iconst (v := (nI 3)) dLa_law_440 rfl).trans ((w_iadd dLa_law_441).trans ((w_iald0 dLa_law_442).trans (ite_c ((w_aload_n dLa_law_443 rfl).trans ((w_iload_n dLa_law_444 rfl).trans ((w_iconst (v := (nI 4)) dLa_law_445 rfl).trans ((w_iadd dLa_law_446).trans ((w_iald0 dLa_law_447).trans (ite_c ((w_aload_n dLa_law_448 rfl).trans ((w_iload_n dLa_law_449 rfl).trans ((w_iconst (v := (nI 5)) dLa_law_450 rfl).trans ((w_iadd dLa_law_451).trans ((w_iald0 dLa_law_452).trans (ite_c (w_virt (vs := [.int (E.2 (a3 + 1).toNatClampNeg), .int (E.2 (a3 + (nI 2)).toNatClampNeg), .int (E.2 (a3 + (nI 3)).toNatClampNeg), .int (E.2 (a3 + (nI 4)).toNatClampNeg), .int (E.2 (a3 + (nI 5)).toNatClampNeg)]) (st' := []) (es := [.ref 0, .int (E.2 (a3 + 1).toNatClampNeg), .int (E.2 (a3 + (nI 2)).toNatClampNeg), .int (E.2 (a3 + (nI 3)).toNatClampNeg), .int (E.2 (a3 + (nI 4)).toNatClampNeg), .int (E.2 (a3 + (nI 5)).toNatClampNeg)]) dLa_law_453 rz12_44 rfl sh_0 rfl rfl rfl (Nat.le_of_ble_eq_true rfl) (Nat.le_of_ble_eq_true rfl) rfl)))))))))))))))))))))))))))))))
theorem bLa_law_456 {E : mEn} {d : Nat} {σ : mSt} {Q : mPost} {a3 : Int32} {s0 : Int32} : WP E (d + 1) mLa_law 456 [.ref 1000, .ref 0, .ref 166, .int a3] [.int s0] σ Q = (if mOut (a3 + 1) E.1 = true then False else (if mOut (a3 + (nI 2)) E.1 = true then False else (if mOut (a3 + (nI 3)) E.1 = true then False else (if mOut (a3 + (nI 4)) E.1 = true then False else (if mOut (a3 + (nI 5)) E.1 = true then False else WP E d mMo_pour 0 [.ref 166, .int (E.2 (a3 + 1).toNatClampNeg), .int (E.2 (a3 + (nI 2)).toNatClampNeg), .int (E.2 (a3 + (nI 3)).toNatClampNeg), .int (E.2 (a3 + (nI 4)).toNatClampNeg), .int (E.2 (a3 + (nI 5)).toNatClampNeg), uu, uu, uu] [] σ (fun r σ' => WP E (d + 1) mLa_law 485 [.ref 1000, .ref 0, .ref 166, .int a3] (r.toList ++ [.int s0]) σ' Q)))))) := (w_aload_n dLa_law_456 rfl).trans ((w_aload_n dLa_law_457 rfl).trans ((w_iload_n dLa_law_458 rfl).trans ((w_iconst (v := 1) dLa_law_459 rfl).trans ((w_iadd dLa_law_460).trans ((w_iald0 dLa_law_461).trans (ite_c ((w_aload_n dLa_law_462 rfl).trans ((w_iload_n dLa_law_463 rfl).trans ((w_iconst (v := (nI 2)) dLa_law_464 rfl).trans ((w_iadd dLa_law_465).trans ((w_iald0 dLa_law_466).trans (ite_c ((w_aload_n dLa_law_467 rfl).trans ((w_iload_n dLa_law_468 rfl).trans ((w_iconst (v := (nI 3)) dLa_law_469 rfl).trans ((w_iadd dLa_law_470).trans ((w_iald0 dLa_law_471).trans (ite_c ((w_aload_n dLa_law_472 rfl).trans ((w_iload_n dLa_law_473 rfl).trans ((w_iconst (v := (nI 4)) dLa_law_474 rfl).trans ((w_iadd dLa_law_475).trans ((w_iald0 dLa_law_476).trans (ite_c ((w_aload_n dLa_law_477 rfl).trans ((w_iload_n dLa_law_478 rfl).trans ((w_iconst (v := (nI 5)) dLa_law_479 rfl).trans ((w_iadd dLa_law_480).trans ((w_iald0 dLa_law_481).trans (ite_c (w_virt (vs := [.int (E.2 (a3 + 1).toNatClampNeg), .int (E.2 (a3 + (nI 2)).toNatClampNeg), .int (E.2 (a3 + (nI 3)).toNatClampNeg), .int (E.2 (a3 + (nI 4)).toNatClampNeg), .int (E.2 (a3 + (nI 5)).toNatClampNeg)]) (st' := [.int s0]) (es := [.ref 166, .int (E.2 (a3 + 1).toNatClampNeg), .int (E.2 (a3 + (nI 2)).toNatClampNeg), .int (E.2 (a3 + (nI 3)).toNatClampNeg), .int (E.2 (a3 + (nI 4)).toNatClampNeg), .int (E.2 (a3 + (nI 5)).toNatClampNeg), uu, uu, uu]) dLa_law_482 rz12_48 rfl sh_166 rfl rfl rfl (Nat.le_of_ble_eq_true rfl) (Nat.le_of_ble_eq_true rfl) rfl)))))))))))))))))))))))))))))))
theorem bLa_law_485 {E : mEn} {d : Nat} {σ : mSt} {Q : mPost} {a3 : Int32} {s0 : Int32} {s1 : Int32} : WP E d mLa_law 485 [.ref 1000, .ref 0, .ref 166, .int a3] [.int s0, .int s1] σ Q = (if s1 = s0 then WP E d mLa_law 1788 [.ref 1000, .ref 0, .ref 166, .int a3] [] σ Q else WP E d mLa_law 488 [.ref 1000, .ref 0, .ref 166, .int a3] [] σ Q) := w_icmpeq (t := 1788) dLa_law_485 (by decide)
theorem bLa_law_488 {E : mEn} {d : Nat} {σ : mSt} {Q : mPost} {a3 : Int32} : WP E d mLa_law 488 [.ref 1000, .ref 0, .ref 166, .int a3] [] σ Q = Q (some (.int 0)) σ := (w_iconst (v := 0) dLa_law_488 rfl).trans (w_zret dLa_law_489 rfl (Or.inl rfl))
theorem bLa_law_490 {E : mEn} {d : Nat} {σ : mSt} {Q : mPost} {a3 : Int32} : WP E (d + 1) mLa_law 490 [.ref 1000, .ref 0, .ref 166, .int a3] [] σ Q = (if mOut (a3 + 1) E.1 = true then False else (if mOut (a3 + (nI 2)) E.1 = true then False else (if mOut (a3 + (nI 3)) E.1 = true then False else (if mOut (a3 + (nI 4)) E.1 = true then False else (if mOut (a3 + (nI 5)) E.1 = true then False else WP E d mPb_feed 0 [.ref 0, .int (E.2 (a3 + 1).toNatClampNeg), .int (E.2 (a3 + (nI 2)).toNatClampNeg), .int (E.2 (a3 + (nI 3)).toNatClampNeg), .int (E.2 (a3 + (nI 4)).toNatClampNeg), .int (E.2 (a3 + (nI 5)).toNatClampNeg), uu] [] σ (fun r σ' => WP E (d + 1) mLa_law 519 [.ref 1000, .ref 0, .ref 166, .int a3] (r.toList ++ []) σ' Q)))))) := (w_aload_n dLa_law_490 rfl).trans ((w_aload_n dLa_law_491 rfl).trans ((w_iload_n dLa_law_492 rfl).trans ((w_iconst (v := 1) dLa_law_493 rfl).trans ((w_iadd dLa_law_494).trans ((w_iald0 dLa_law_495).trans (ite_c ((w_aload_n dLa_law_496 rfl).trans ((w_iload_n dLa_law_497 rfl).trans ((w_iconst (v := (nI 2)) dLa_law_498 rfl).trans ((w_iadd dLa_law_499).trans ((w_iald0 dLa_law_500).trans (ite_c ((w_aload_n dLa_law_501 rfl).trans ((w_iload_n dLa_law_502 rfl).trans ((w_iconst (v := (nI 3)) dLa_law_503 rfl).trans ((w_iadd dLa_law_504).trans ((w_iald0 dLa_law_505).trans (ite_c ((w_aload_n dLa_law_506 rfl).trans ((w_iload_n dLa_law_507 rfl).trans ((w_iconst (v := (nI 4)) dLa_law_508 rfl).trans ((w_iadd dLa_law_509).trans ((w_iald0 dLa_law_510).trans (ite_c ((w_aload_n dLa_law_511 rfl).trans ((w_iload_n dLa_law_512 rfl).trans ((w_iconst (v := (nI 5)) dLa_law_513 rfl).trans ((w_iadd dLa_law_514).trans ((w_iald0 dLa_law_515).trans (ite_c (w_virt (vs := [.int (E.2 (a3 + 1).toNatClampNeg), .int (E.2 (a3 + (nI 2)).toNatClampNeg), .int (E.2 (a3 + (nI 3)).toNatClampNeg), .int (E.2 (a3 + (nI 4)).toNatClampNeg), .int (E.2 (a3 + (nI 5)).toNatClampNeg)]) (st' := []) (es := [.ref 0, .int (E.2 (a3 + 1).toNatClampNeg), .int (E.2 (a3 + (nI 2)).toNatClampNeg), .int (E.2 (a3 + (nI 3)).toNatClampNeg), .int (E.2 (a3 + (nI 4)).toNatClampNeg), .int (E.2 (a3 + (nI 5)).toNatClampNeg), uu]) dLa_law_516 rz12_49 rfl sh_0 rfl rfl rfl (Nat.le_of_ble_eq_true rfl) (Nat.le_of_ble_eq_true rfl) rfl)))))))))))))))))))))))))))))))
theorem bLa_law_519 {E : mEn} {d : Nat} {σ : mSt} {Q : mPost} {a3 : Int32} {s0 : Int32} : WP E (d + 1) mLa_law 519 [.ref 1000, .ref 0, .ref 166, .int a3] [.int s0] σ Q = (if mOut (a3 + 1) E.1 = true then False else (if mOut (a3 + (nI 2)) E.1 = true then False else (if mOut (a3 + (nI 3)) E.1 = true then False else (if mOut (a3 + (nI 4)) E.1 = true then False else (if mOut (a3 + (nI 5)) E.1 = true then False else WP E d mMo_feed 0 [.ref 166, .int (E.2 (a3 + 1).toNatClampNeg), .int (E.2 (a3 + (nI 2)).toNatClampNeg), .int (E.2 (a3 + (nI 3)).toNatClampNeg), .int (E.2 (a3 + (nI 4)).toNatClampNeg), .int (E.2 (a3 + (nI 5)).toNatClampNeg)] [] σ (fun r σ' => WP E (d + 1) mLa_law 548 [.ref 1000, .ref 0, .ref 166, .int a3] (r.toList ++ [.int s0]) σ' Q)))))) := (w_aload_n dLa_law_519 rfl).trans ((w_aload_n dLa_law_520 rfl).trans ((w_iload_n dLa_law_521 rfl).trans ((w_iconst (v := 1) dLa_law_522 rfl).trans ((w_iadd dLa_law_523).trans ((w_iald0 dLa_law_524).trans (ite_c ((w_aload_n dLa_law_525 rfl).trans ((w_iload_n dLa_law_526 rfl).trans ((w_iconst (v := (nI 2)) dLa_law_527 rfl).trans ((w_iadd dLa_law_528).trans ((w_iald0 dLa_law_529).trans (ite_c ((w_aload_n dLa_law_530 rfl).trans ((w_iload_n dLa_law_531 rfl).trans ((w_iconst (v := (nI 3)) dLa_law_532 rfl).trans ((w_iadd dLa_law_533).trans ((w_iald0 dLa_law_534).trans (ite_c ((w_aload_n dLa_law_535 rfl).trans ((w_iload_n dLa_law_536 rfl).trans ((w_iconst (v := (nI 4)) dLa_law_537 rfl).trans ((w_iadd dLa_law_538).trans ((w_iald0 dLa_law_539).trans (ite_c ((w_aload_n dLa_law_540 rfl).trans ((w_iload_n dLa_law_541 rfl).trans ((w_iconst (v := (nI 5)) dLa_law_542 rfl).trans ((w_iadd dLa_law_543).trans ((w_iald0 dLa_law_544).trans (ite_c (w_virt (vs := [.int (E.2 (a3 + 1).toNatClampNeg), .int (E.2 (a3 + (nI 2)).toNatClampNeg), .int (E.2 (a3 + (nI 3)).toNatClampNeg), .int (E.2 (a3 + (nI 4)).toNatClampNeg), .int (E.2 (a3 + (nI 5)).toNatClampNeg)]) (st' := [.int s0]) (es := [.ref 166, .int (E.2 (a3 + 1).toNatClampNeg), .int (E.2 (a3 + (nI 2)).toNatClampNeg), .int (E.2 (a3 + (nI 3)).toNatClampNeg), .int (E.2 (a3 + (nI 4)).toNatClampNeg), .int (E.2 (a3 + (nI 5)).toNatClampNeg)]) dLa_law_545 rz12_53 rfl sh_166 rfl rfl rfl (Nat.le_of_ble_eq_true rfl) (Nat.le_of_ble_eq_true rfl) rfl)))))))))))))))))))))))))))))))
theorem bLa_law_548 {E : mEn} {d : Nat} {σ : mSt} {Q : mPost} {a3 : Int32} {s0 : Int32} {s1 : Int32} : WP E d mLa_law 548 [.ref 1000, .ref 0, .ref 166, .int a3] [.int s0, .int s1] σ Q = (if s1 = s0 then WP E d mLa_law 1788 [.ref 1000, .ref 0, .ref 166, .int a3] [] σ Q else WP E d mLa_law 551 [.ref 1000, .ref 0, .ref 166, .int a3] [] σ Q) := w_icmpeq (t := 1788) dLa_law_548 (by decide)
theorem bLa_law_551 {E : mEn} {d : Nat} {σ : mSt} {Q : mPost} {a3 : Int32} : WP E d mLa_law 551 [.ref 1000, .ref 0, .ref 166, .int a3] [] σ Q = Q (some (.int 0)) σ := (w_iconst (v := 0) dLa_law_551 rfl).trans (w_zret dLa_law_552 rfl (Or.inl rfl))
theorem bLa_law_553 {E : mEn} {d : Nat} {σ : mSt} {Q : mPost} {a3 : Int32} : WP E (d + 1) mLa_law 553 [.ref 1000, .ref 0, .ref 166, .int a3] [] σ Q = (if mOut (a3 + 1) E.1 = true then False else WP E d mPb_town 0 [.ref 0, .int (E.2 (a3 + 1).toNatClampNeg), uu] [] σ (fun r σ' => WP E (d + 1) mLa_law 562 [.ref 1000, .ref 0, .ref 166, .int a3] (r.toList ++ []) σ' Q)) := (w_aload_n dLa_law_553 rfl).trans ((w_aload_n dLa_law_554 rfl).trans ((w_iload_n dLa_law_555 rfl).trans ((w_iconst (v := 1) dLa_law_556 rfl).trans ((w_iadd dLa_law_557).trans ((w_iald0 dLa_law_558).trans (ite_c (w_virt (vs := [.int (E.2 (a3 + 1).toNatClampNeg)]) (st' := []) (es := [.ref 0, .int (E.2 (a3 + 1).toNatClampNeg), uu]) dLa_law_559 rz12_54 rfl sh_0 rfl rfl rfl (Nat.le_of_ble_eq_true rfl) (Nat.le_of_ble_eq_true rfl) rfl)))))))
theorem bLa_law_562 {E : mEn} {d : Nat} {σ : mSt} {Q : mPost} {a3 : Int32} {s0 : Int32} : WP E (d + 1) mLa_law 562 [.ref 1000, .ref 0, .ref 166, .int a3] [.int s0] σ Q = (if mOut (a3 + 1) E.1 = true then False else WP E d mMo_town 0 [.ref 166, .int (E.2 (a3 + 1).toNatClampNeg), uu] [] σ (fun r σ' => WP E (d + 1) mLa_law 571 [.ref 1000, .ref 0, .ref 166, .int a3] (r.toList ++ [.int s0]) σ' Q)) := (w_aload_n dLa_law_562 rfl).trans ((w_aload_n dLa_law_563 rfl).trans ((w_iload_n dLa_law_564 rfl).trans ((w_iconst (v := 1) dLa_law_565 rfl).trans ((w_iadd dLa_law_566).trans ((w_iald0 dLa_law_567).trans (ite_c (w_virt (vs := [.int (E.2 (a3 + 1).toNatClampNeg)]) (st' := [.int s0]) (es := [.ref 166, .int (E.2 (a3 + 1).toNatClampNeg), uu]) dLa_law_568 rz12_58 rfl sh_166 rfl rfl rfl (Nat.le_of_ble_eq_true rfl) (Nat.le_of_ble_eq_true rfl) rfl)))))))
theorem bLa_law_571 {E : mEn} {d : Nat} {σ : mSt} {Q : mPost} {a3 : Int32} {s0 : Int32} {s1 : Int32} : WP E d mLa_law 571 [.ref 1000, .ref 0, .ref 166, .int a3] [.int s0, .int s1] σ Q = (if s1 = s0 then WP E d mLa_law 1788 [.ref 1000, .ref 0, .ref 166, .int a3] [] σ Q else WP E d mLa_law 574 [.ref 1000, .ref 0, .ref 166, .int a3] [] σ Q) := w_icmpeq (t := 1788) dLa_law_571 (by decide)
theorem bLa_law_574 {E : mEn} {d : Nat} {σ : mSt} {Q : mPost} {a3 : Int32} : WP E d mLa_law 574 [.ref 1000, .ref 0, .ref 166, .int a3] [] σ Q = Q (some (.int 0)) σ := (w_iconst (v := 0) dLa_law_574 rfl).trans (w_zret dLa_law_575 rfl (Or.inl rfl))
theorem bLa_law_576 {E : mEn} {d : Nat} {σ : mSt} {Q : mPost} {a3 : Int32} : WP E (d + 1) mLa_law 576 [.ref 1000, .ref 0, .ref 166, .int a3] [] σ Q = (if mOut (a3 + 1) E.1 = true then False else WP E d mPb_days 0 [.ref 0, .int (E.2 (a3 + 1).toNatClampNeg), uu] [] σ (fun r σ' => WP E (d + 1) mLa_law 585 [.ref 1000, .ref 0, .ref 166, .int a3] (r.toList ++ []) σ' Q)) := (w_aload_n dLa_law_576 rfl).trans ((w_aload_n dLa_law_577 rfl).trans ((w_iload_n dLa_law_578 rfl).trans ((w_iconst (v := 1) dLa_law_579 rfl).trans ((w_iadd dLa_law_580).trans ((w_iald0 dLa_law_581).trans (ite_c (w_virt (vs := [.int (E.2 (a3 + 1).toNatClampNeg)]) (st' := []) (es := [.ref 0, .int (E.2 (a3 + 1).toNatClampNeg), uu]) dLa_law_582 rz12_59 rfl sh_0 rfl rfl rfl (Nat.le_of_ble_eq_true rfl) (Nat.le_of_ble_eq_true rfl) rfl)))))))
theorem bLa_law_585 {E : mEn} {d : Nat} {σ : mSt} {Q : mPost} {a3 : Int32} {s0 : Int32} : WP E (d + 1) mLa_law 585 [.ref 1000, .ref 0, .ref 166, .int a3] [.int s0] σ Q = (if mOut (a3 + 1) E.1 = true then False else WP E d mMo_days 0 [.ref 166, .int (E.2 (a3 + 1).toNatClampNeg), uu] [] σ (fun r σ' => WP E (d + 1) mLa_law 594 [.ref 1000, .ref 0, .ref 166, .int a3] (r.toList ++ [.int s0]) σ' Q)) := (w_aload_n dLa_law_585 rfl).trans ((w_aload_n dLa_law_586 rfl).trans ((w_iload_n dLa_law_587 rfl).trans ((w_iconst (v := 1) dLa_law_588 rfl).trans ((w_iadd dLa_law_589).trans ((w_iald0 dLa_law_590).trans (ite_c (w_virt (vs := [.int (E.2 (a3 + 1).toNatClampNeg)]) (st' := [.int s0]) (es := [.ref 166, .int (E.2 (a3 + 1).toNatClampNeg), uu]) dLa_law_591 rz12_62 rfl sh_166 rfl rfl rfl (Nat.le_of_ble_eq_true rfl) (Nat.le_of_ble_eq_true rfl) rfl)))))))
theorem bLa_law_594 {E : mEn} {d : Nat} {σ : mSt} {Q : mPost} {a3 : Int32} {s0 : Int32} {s1 : Int32} : WP E d mLa_law 594 [.ref 1000, .ref 0, .ref 166, .int a3] [.int s0, .int s1] σ Q = (if s1 = s0 then WP E d mLa_law 1788 [.ref 1000, .ref 0, .ref 166, .int a3] [] σ Q else WP E d mLa_law 597 [.ref 1000, .ref 0, .ref 166, .int a3] [] σ Q) := w_icmpeq (t := 1788) dLa_law_594 (by decide)
theorem bLa_law_597 {E : mEn} {d : Nat} {σ : mSt} {Q : mPost} {a3 : Int32} : WP E d mLa_law 597 [.ref 1000, .ref 0, .ref 166, .int a3] [] σ Q = Q (some (.int 0)) σ := (w_iconst (v := 0) dLa_law_597 rfl).trans (w_zret dLa_law_598 rfl (Or.inl rfl))
theorem bLa_law_599 {E : mEn} {d : Nat} {σ : mSt} {Q : mPost} {a3 : Int32} : WP E (d + 1) mLa_law 599 [.ref 1000, .ref 0, .ref 166, .int a3] [] σ Q = (if mOut (a3 + 1) E.1 = true then False else WP E d mPb_fault 0 [.ref 0, .int (E.2 (a3 + 1).toNatClampNeg)] [] σ (fun r σ' => WP E (d + 1) mLa_law 608 [.ref 1000, .ref 0, .ref 166, .int a3] (r.toList ++ []) σ' Q)) := (w_aload_n dLa_law_599 rfl).trans ((w_aload_n dLa_law_600 rfl).trans ((w_iload_n dLa_law_601 rfl).trans ((w_iconst (v := 1) dLa_law_602 rfl).trans ((w_iadd dLa_law_603).trans ((w_iald0 dLa_law_604).trans (ite_c (w_virt (vs := [.int (E.2 (a3 + 1).toNatClampNeg)]) (st' := []) (es := [.ref 0, .int (E.2 (a3 + 1).toNatClampNeg)]) dLa_law_605 rz12_63 rfl sh_0 rfl rfl rfl (Nat.le_of_ble_eq_true rfl) (Nat.le_of_ble_eq_true rfl) rfl)))))))
theorem bLa_law_608 {E : mEn} {d : Nat} {σ : mSt} {Q : mPost} {a3 : Int32} {s0 : Int32} : WP E (d + 1) mLa_law 608 [.ref 1000, .ref 0, .ref 166, .int a3] [.int s0] σ Q = (if mOut (a3 + 1) E.1 = true then False else WP E d mMo_fault 0 [.ref 166, .int (E.2 (a3 + 1).toNatClampNeg)] [] σ (fun r σ' => WP E (d + 1) mLa_law 617 [.ref 1000, .ref 0, .ref 166, .int a3] (r.toList ++ [.int s0]) σ' Q)) := (w_aload_n dLa_law_608 rfl).trans ((w_aload_n dLa_law_609 rfl).trans ((w_iload_n dLa_law_610 rfl).trans ((w_iconst (v := 1) dLa_law_611 rfl).trans ((w_iadd dLa_law_612).trans ((w_iald0 dLa_law_613).trans (ite_c (w_virt (vs := [.int (E.2 (a3 + 1).toNatClampNeg)]) (st' := [.int s0]) (es := [.ref 166, .int (E.2 (a3 + 1).toNatClampNeg)]) dLa_law_614 rz12_66 rfl sh_166 rfl rfl rfl (Nat.le_of_ble_eq_true rfl) (Nat.le_of_ble_eq_true rfl) rfl)))))))
theorem bLa_law_617 {E : mEn} {d : Nat} {σ : mSt} {Q : mPost} {a3 : Int32} {s0 : Int32} {s1 : Int32} : WP E d mLa_law 617 [.ref 1000, .ref 0, .ref 166, .int a3] [.int s0, .int s1] σ Q = (if s1 = s0 then WP E d mLa_law 1788 [.ref 1000, .ref 0, .ref 166, .int a3] [] σ Q else WP E d mLa_law 620 [.ref 1000, .ref 0, .ref 166, .int a3] [] σ Q) := w_icmpeq (t := 1788) dLa_law_617 (by decide)
theorem bLa_law_620 {E : mEn} {d : Nat} {σ : mSt} {Q : mPost} {a3 : Int32} : WP E d mLa_law 620 [.ref 1000, .ref 0, .ref 166, .int a3] [] σ Q = Q (some (.int 0)) σ := (w_iconst (v := 0) dLa_law_620 rfl).trans (w_zret dLa_law_621 rfl (Or.inl rfl))
theorem bLa_law_622 {E : mEn} {d : Nat} {σ : mSt} {Q : mPost} {a3 : Int32} : WP E (d + 1) mLa_law 622 [.ref 1000, .ref 0, .ref 166, .int a3] [] σ Q = (if mOut (a3 + 1) E.1 = true then False else WP E d mPb_many 0 [.ref 0, .int (E.2 (a3 + 1).toNatClampNeg)] [] σ (fun r σ' => WP E (d + 1) mLa_law 631 [.ref 1000, .ref 0, .ref 166, .int a3] (r.toList ++ []) σ' Q)) := (w_aload_n dLa_law_622 rfl).trans ((w_aload_n dLa_law_623 rfl).trans ((w_iload_n dLa_law_624 rfl).trans ((w_iconst (v := 1) dLa_law_625 rfl).trans ((w_iadd dLa_law_626).trans ((w_iald0 dLa_law_627).trans (ite_c (w_virt (vs := [.int (E.2 (a3 + 1).toNatClampNeg)]) (st' := []) (es := [.ref 0, .int (E.2 (a3 + 1).toNatClampNeg)]) dLa_law_628 rz12_67 rfl sh_0 rfl rfl rfl (Nat.le_of_ble_eq_true rfl) (Nat.le_of_ble_eq_true rfl) rfl)))))))
theorem bLa_law_631 {E : mEn} {d : Nat} {σ : mSt} {Q : mPost} {a3 : Int32} {s0 : Int32} : WP E (d + 1) mLa_law 631 [.ref 1000, .ref 0, .ref 166, .int a3] [.int s0] σ Q = (if mOut (a3 + 1) E.1 = true then False else WP E d mMo_many 0 [.ref 166, .int (E.2 (a3 + 1).toNatClampNeg)] [] σ (fun r σ' => WP E (d + 1) mLa_law 640 [.ref 1000, .ref 0, .ref 166, .int a3] (r.toList ++ [.int s0]) σ' Q)) := (w_aload_n dLa_law_631 rfl).trans ((w_aload_n dLa_law_632 rfl).trans ((w_iload_n dLa_law_633 rfl).trans ((w_iconst (v := 1) dLa_law_634 rfl).trans ((w_iadd dLa_law_635).trans ((w_iald0 dLa_law_636).trans (ite_c (w_virt (vs := [.int (E.2 (a3 + 1).toNatClampNeg)]) (st' := [.int s0]) (es := [.ref 166, .int (E.2 (a3 + 1).toNatClampNeg)]) dLa_law_637 rz12_70 rfl sh_166 rfl rfl rfl (Nat.le_of_ble_eq_true rfl) (Nat.le_of_ble_eq_true rfl) rfl)))))))
theorem bLa_law_640 {E : mEn} {d : Nat} {σ : mSt} {Q : mPost} {a3 : Int32} {s0 : Int32} {s1 : Int32} : WP E d mLa_law 640 [.ref 1000, .ref 0, .ref 166, .int a3] [.int s0, .int s1] σ Q = (if s1 = s0 then WP E d mLa_law 1788 [.ref 1000, .ref 0, .ref 166, .int a3] [] σ Q else WP E d mLa_law 643 [.ref 1000, .ref 0, .ref 166, .int a3] [] σ Q) := w_icmpeq (t := 1788) dLa_law_640 (by decide)
theorem bLa_law_643 {E : mEn} {d : Nat} {σ : mSt} {Q : mPost} {a3 : Int32} : WP E d mLa_law 643 [.ref 1000, .ref 0, .ref 166, .int a3] [] σ Q = Q (some (.int 0)) σ := (w_iconst (v := 0) dLa_law_643 rfl).trans (w_zret dLa_law_644 rfl (Or.inl rfl))
theorem bLa_law_645 {E : mEn} {d : Nat} {σ : mSt} {Q : mPost} {a3 : Int32} : WP E (d + 1) mLa_law 645 [.ref 1000, .ref 0, .ref 166, .int a3] [] σ Q = (if mOut (a3 + 1) E.1 = true then False else (if mOut (a3 + (nI 2)) E.1 = true then False else WP E d mPb_person 0 [.ref 0, .int (E.2 (a3 + 1).toNatClampNeg), .int (E.2 (a3 + (nI 2)).toNatClampNeg)] [] σ (fun r σ' => WP E (d + 1) mLa_law 659 [.ref 1000, .ref 0, .ref 166, .int a3] (r.toList ++ []) σ' Q))) := (w_aload_n dLa_law_645 rfl).trans ((w_aload_n dLa_law_646 rfl).trans ((w_iload_n dLa_law_647 rfl).trans ((w_iconst (v := 1) dLa_law_648 rfl).trans ((w_iadd dLa_law_649).trans ((w_iald0 dLa_law_650).trans (ite_c ((w_aload_n dLa_law_651 rfl).trans ((w_iload_n dLa_law_652 rfl).trans ((w_iconst (v := (nI 2)) dLa_law_653 rfl).trans ((w_iadd dLa_law_654).trans ((w_iald0 dLa_law_655).trans (ite_c (w_virt (vs := [.int (E.2 (a3 + 1).toNatClampNeg), .int (E.2 (a3 + (nI 2)).toNatClampNeg)]) (st' := []) (es := [.ref 0, .int (E.2 (a3 + 1).toNatClampNeg), .int (E.2 (a3 + (nI 2)).toNatClampNeg)]) dLa_law_656 rz12_71 rfl sh_0 rfl rfl rfl (Nat.le_of_ble_eq_true rfl) (Nat.le_of_ble_eq_true rfl) rfl)))))))))))))
theorem bLa_law_659 {E : mEn} {d : Nat} {σ : mSt} {Q : mPost} {a3 : Int32} {s0 : Int32} : WP E (d + 1) mLa_law 659 [.ref 1000, .ref 0, .ref 166, .int a3] [.int s0] σ Q = (if mOut (a3 + 1) E.1 = true then False else (if mOut (a3 + (nI 2)) E.1 = true then False else WP E d mMo_person 0 [.ref 166, .int (E.2 (a3 + 1).toNatClampNeg), .int (E.2 (a3 + (nI 2)).toNatClampNeg)] [] σ (fun r σ' => WP E (d + 1) mLa_law 673 [.ref 1000, .ref 0, .ref 166, .int a3] (r.toList ++ [.int s0]) σ' Q))) := (w_aload_n dLa_law_659 rfl).trans ((w_aload_n dLa_law_660 rfl).trans ((w_iload_n dLa_law_661 rfl).trans ((w_iconst (v := 1) dLa_law_662 rfl).trans ((w_iadd dLa_law_663).trans ((w_iald0 dLa_law_664).trans (ite_c ((w_aload_n dLa_law_665 rfl).trans ((w_iload_n dLa_law_666 rfl).trans ((w_iconst (v := (nI 2)) dLa_law_667 rfl).trans ((w_iadd dLa_law_668).trans ((w_iald0 dLa_law_669).trans (ite_c (w_virt (vs := [.int (E.2 (a3 + 1).toNatClampNeg), .int (E.2 (a3 + (nI 2)).toNatClampNeg)]) (st' := [.int s0]) (es := [.ref 166, .int (E.2 (a3 + 1).toNatClampNeg), .int (E.2 (a3 + (nI 2)).toNatClampNeg)]) dLa_law_670 rz12_75 rfl sh_166 rfl rfl rfl (Nat.le_of_ble_eq_true rfl) (Nat.le_of_ble_eq_true rfl) rfl)))))))))))))
theorem bLa_law_673 {E : mEn} {d : Nat} {σ : mSt} {Q : mPost} {a3 : Int32} {s0 : Int32} {s1 : Int32} : WP E d mLa_law 673 [.ref 1000, .ref 0, .ref 166, .int a3] [.int s0, .int s1] σ Q = (if s1 = s0 then WP E d mLa_law 1788 [.ref 1000, .ref 0, .ref 166, .int a3] [] σ Q else WP E d mLa_law 676 [.ref 1000, .ref 0, .ref 166, .int a3] [] σ Q) := w_icmpeq (t := 1788) dLa_law_673 (by decide)
theorem bLa_law_676 {E : mEn} {d : Nat} {σ : mSt} {Q : mPost} {a3 : Int32} : WP E d mLa_law 676 [.ref 1000, .ref 0, .ref 166, .int a3] [] σ Q = Q (some (.int 0)) σ := (w_iconst (v := 0) dLa_law_676 rfl).trans (w_zret dLa_law_677 rfl (Or.inl rfl))
theorem bLa_law_678 {E : mEn} {d : Nat} {σ : mSt} {Q : mPost} {a3 : Int32} : WP E (d + 1) mLa_law 678 [.ref 1000, .ref 0, .ref 166, .int a3] [] σ Q = (if mOut (a3 + 1) E.1 = true then False else (if mOut (a3 + (nI 2)) E.1 = true then False else WP E d mPb_loaf 0 [.ref 0, .int (E.2 (a3 + 1).toNatClampNeg), .int (E.2 (a3 + (nI 2)).toNatClampNeg)] [] σ (fun r σ' => WP E (d + 1) mLa_law 692 [.ref 1000, .ref 0, .ref 166, .int a3] (r.toList ++ []) σ' Q))) := (w_aload_n dLa_law_678 rfl).trans ((w_aload_n dLa_law_679 rfl).trans ((w_iload_n dLa_law_680 rfl).trans ((w_iconst (v := 1) dLa_law_681 rfl).trans ((w_iadd dLa_law_682).trans ((w_iald0 dLa_law_683).trans (ite_c ((w_aload_n dLa_law_684 rfl).trans ((w_iload_n dLa_law_685 rfl).trans ((w_iconst (v := (nI 2)) dLa_law_686 rfl).trans ((w_iadd dLa_law_687).trans ((w_iald0 dLa_law_688).trans (ite_c (w_virt (vs := [.int (E.2 (a3 + 1).toNatClampNeg), .int (E.2 (a3 + (nI 2)).toNatClampNeg)]) (st' := []) (es := [.ref 0, .int (E.2 (a3 + 1).toNatClampNeg), .int (E.2 (a3 + (nI 2)).toNatClampNeg)]) dLa_law_689 rz12_76 rfl sh_0 rfl rfl rfl (Nat.le_of_ble_eq_true rfl) (Nat.le_of_ble_eq_true rfl) rfl)))))))))))))
theorem bLa_law_692 {E : mEn} {d : Nat} {σ : mSt} {Q : mPost} {a3 : Int32} {s0 : Int32} : WP E (d + 1) mLa_law 692 [.ref 1000, .ref 0, .ref 166, .int a3] [.int s0] σ Q = (if mOut (a3 + 1) E.1 = true then False else (if mOut (a3 + (nI 2)) E.1 = true then False else WP E d mMo_loaf 0 [.ref 166, .int (E.2 (a3 + 1).toNatClampNeg), .int (E.2 (a3 + (nI 2)).toNatClampNeg)] [] σ (fun r σ' => WP E (d + 1) mLa_law 706 [.ref 1000, .ref 0, .ref 166, .int a3] (r.toList ++ [.int s0]) σ' Q))) := (w_aload_n dLa_law_692 rfl).trans ((w_aload_n dLa_law_693 rfl).trans ((w_iload_n dLa_law_694 rfl).trans ((w_iconst (v := 1) dLa_law_695 rfl).trans ((w_iadd dLa_law_696).trans ((w_iald0 dLa_law_697).trans (ite_c ((w_aload_n dLa_law_698 rfl).trans ((w_iload_n dLa_law_699 rfl).trans ((w_iconst (v := (nI 2)) dLa_law_700 rfl).trans ((w_iadd dLa_law_701).trans ((w_iald0 dLa_law_702).trans (ite_c (w_virt (vs := [.int (E.2 (a3 + 1).toNatClampNeg), .int (E.2 (a3 + (nI 2)).toNatClampNeg)]) (st' := [.int s0]) (es := [.ref 166, .int (E.2 (a3 + 1).toNatClampNeg), .int (E.2 (a3 + (nI 2)).toNatClampNeg)]) dLa_law_703 rz12_79 rfl sh_166 rfl rfl rfl (Nat.le_of_ble_eq_true rfl) (Nat.le_of_ble_eq_true rfl) rfl)))))))))))))
theorem bLa_law_706 {E : mEn} {d : Nat} {σ : mSt} {Q : mPost} {a3 : Int32} {s0 : Int32} {s1 : Int32} : WP E d mLa_law 706 [.ref 1000, .ref 0, .ref 166, .int a3] [.int s0, .int s1] σ Q = (if s1 = s0 then WP E d mLa_law 1788 [.ref 1000, .ref 0, .ref 166, .int a3] [] σ Q else WP E d mLa_law 709 [.ref 1000, .ref 0, .ref 166, .int a3] [] σ Q) := w_icmpeq (t := 1788) dLa_law_706 (by decide)
theorem bLa_law_709 {E : mEn} {d : Nat} {σ : mSt} {Q : mPost} {a3 : Int32} : WP E d mLa_law 709 [.ref 1000, .ref 0, .ref 166, .int a3] [] σ Q = Q (some (.int 0)) σ := (w_iconst (v := 0) dLa_law_709 rfl).trans (w_zret dLa_law_710 rfl (Or.inl rfl))
theorem bLa_law_711 {E : mEn} {d : Nat} {σ : mSt} {Q : mPost} {a3 : Int32} : WP E (d + 1) mLa_law 711 [.ref 1000, .ref 0, .ref 166, .int a3] [] σ Q = (if mOut (a3 + 1) E.1 = true then False else (if mOut (a3 + (nI 2)) E.1 = true then False else WP E d mPb_promise 0 [.ref 0, .int (E.2 (a3 + 1).toNatClampNeg), .int (E.2 (a3 + (nI 2)).toNatClampNeg), uu] [] σ (fun r σ' => WP E (d + 1) mLa_law 725 [.ref 1000, .ref 0, .ref 166, .int a3] (r.toList ++ []) σ' Q))) := (w_aload_n dLa_law_711 rfl).trans ((w_aload_n dLa_law_712 rfl).trans ((w_iload_n dLa_law_713 rfl).trans ((w_iconst (v := 1) dLa_law_714 rfl).trans ((w_iadd dLa_law_715).trans ((w_iald0 dLa_law_716).trans (ite_c ((w_aload_n dLa_law_717 rfl).trans ((w_iload_n dLa_law_718 rfl).trans ((w_iconst (v := (nI 2)) dLa_law_719 rfl).trans ((w_iadd dLa_law_720).trans ((w_iald0 dLa_law_721).trans (ite_c (w_virt (vs := [.int (E.2 (a3 + 1).toNatClampNeg), .int (E.2 (a3 + (nI 2)).toNatClampNeg)]) (st' := []) (es := [.ref 0, .int (E.2 (a3 + 1).toNatClampNeg), .int (E.2 (a3 + (nI 2)).toNatClampNeg), uu]) dLa_law_722 rz12_80 rfl sh_0 rfl rfl rfl (Nat.le_of_ble_eq_true rfl) (Nat.le_of_ble_eq_true rfl) rfl)))))))))))))
theorem bLa_law_725 {E : mEn} {d : Nat} {σ : mSt} {Q : mPost} {a3 : Int32} {s0 : Int32} : WP E (d + 1) mLa_law 725 [.ref 1000, .ref 0, .ref 166, .int a3] [.int s0] σ Q = (if mOut (a3 + 1) E.1 = true then False else (if mOut (a3 + (nI 2)) E.1 = true then False else WP E d mMo_promise 0 [.ref 166, .int (E.2 (a3 + 1).toNatClampNeg), .int (E.2 (a3 + (nI 2)).toNatClampNeg)] [] σ (fun r σ' => WP E (d + 1) mLa_law 739 [.ref 1000, .ref 0, .ref 166, .int a3] (r.toList ++ [.int s0]) σ' Q))) := (w_aload_n dLa_law_725 rfl).trans ((w_aload_n dLa_law_726 rfl).trans ((w_iload_n dLa_law_727 rfl).trans ((w_iconst (v := 1) dLa_law_728 rfl).trans ((w_iadd dLa_law_729).trans ((w_iald0 dLa_law_730).trans (ite_c ((w_aload_n dLa_law_731 rfl).trans ((w_iload_n dLa_law_732 rfl).trans ((w_iconst (v := (nI 2)) dLa_law_733 rfl).trans ((w_iadd dLa_law_734).trans ((w_iald0 dLa_law_735).trans (ite_c (w_virt (vs := [.int (E.2 (a3 + 1).toNatClampNeg), .int (E.2 (a3 + (nI 2)).toNatClampNeg)]) (st' := [.int s0]) (es := [.ref 166, .int (E.2 (a3 + 1).toNatClampNeg), .int (E.2 (a3 + (nI 2)).toNatClampNeg)]) dLa_law_736 rz12_83 rfl sh_166 rfl rfl rfl (Nat.le_of_ble_eq_true rfl) (Nat.le_of_ble_eq_true rfl) rfl)))))))))))))
theorem bLa_law_739 {E : mEn} {d : Nat} {σ : mSt} {Q : mPost} {a3 : Int32} {s0 : Int32} {s1 : Int32} : WP E d mLa_law 739 [.ref 1000, .ref 0, .ref 166, .int a3] [.int s0, .int s1] σ Q = (if s1 = s0 then WP E d mLa_law 1788 [.ref 1000, .ref 0, .ref 166, .int a3] [] σ Q else WP E d mLa_law 742 [.ref 1000, .ref 0, .ref 166, .int a3] [] σ Q) := w_icmpeq (t := 1788) dLa_law_739 (by decide)
theorem bLa_law_742 {E : mEn} {d : Nat} {σ : mSt} {Q : mPost} {a3 : Int32} : WP E d mLa_law 742 [.ref 1000, .ref 0, .ref 166, .int a3] [] σ Q = Q (some (.int 0)) σ := (w_iconst (v := 0) dLa_law_742 rfl).trans (w_zret dLa_law_743 rfl (Or.inl rfl))
theorem bLa_law_744 {E : mEn} {d : Nat} {σ : mSt} {Q : mPost} {a3 : Int32} : WP E (d + 1) mLa_law 744 [.ref 1000, .ref 0, .ref 166, .int a3] [] σ Q = (if mOut (a3 + 1) E.1 = true then False else (if mOut (a3 + (nI 2)) E.1 = true then False else WP E d mPb_holds 0 [.ref 0, .int (E.2 (a3 + 1).toNatClampNeg), .int (E.2 (a3 + (nI 2)).toNatClampNeg)] [] σ (fun r σ' => WP E (d + 1) mLa_law 758 [.ref 1000, .ref 0, .ref 166, .int a3] (r.toList ++ []) σ' Q))) := (w_aload_n dLa_law_744 rfl).trans ((w_aload_n dLa_law_745 rfl).trans ((w_iload_n dLa_law_746 rfl).trans ((w_iconst (v := 1) dLa_law_747 rfl).trans ((w_iadd dLa_law_748).trans ((w_iald0 dLa_law_749).trans (ite_c ((w_aload_n dLa_law_750 rfl).trans ((w_iload_n dLa_law_751 rfl).trans ((w_iconst (v := (nI 2)) dLa_law_752 rfl).trans ((w_iadd dLa_law_753).trans ((w_iald0 dLa_law_754).trans (ite_c (w_virt (vs := [.int (E.2 (a3 + 1).toNatClampNeg), .int (E.2 (a3 + (nI 2)).toNatClampNeg)]) (st' := []) (es := [.ref 0, .int (E.2 (a3 + 1).toNatClampNeg), .int (E.2 (a3 + (nI 2)).toNatClampNeg)]) dLa_law_755 rz12_84 rfl sh_0 rfl rfl rfl (Nat.le_of_ble_eq_true rfl) (Nat.le_of_ble_eq_true rfl) rfl)))))))))))))
theorem bLa_law_758 {E : mEn} {d : Nat} {σ : mSt} {Q : mPost} {a3 : Int32} {s0 : Int32} : WP E (d + 1) mLa_law 758 [.ref 1000, .ref 0, .ref 166, .int a3] [.int s0] σ Q = (if mOut (a3 + 1) E.1 = true then False else (if mOut (a3 + (nI 2)) E.1 = true then False else WP E d mMo_holds 0 [.ref 166, .int (E.2 (a3 + 1).toNatClampNeg), .int (E.2 (a3 + (nI 2)).toNatClampNeg)] [] σ (fun r σ' => WP E (d + 1) mLa_law 772 [.ref 1000, .ref 0, .ref 166, .int a3] (r.toList ++ [.int s0]) σ' Q))) := (w_aload_n dLa_law_758 rfl).trans ((w_aload_n dLa_law_759 rfl).trans ((w_iload_n dLa_law_760 rfl).trans ((w_iconst (v := 1) dLa_law_761 rfl).trans ((w_iadd dLa_law_762).trans ((w_iald0 dLa_law_763).trans (ite_c ((w_aload_n dLa_law_764 rfl).trans ((w_iload_n dLa_law_765 rfl).trans ((w_iconst (v := (nI 2)) dLa_law_766 rfl).trans ((w_iadd dLa_law_767).trans ((w_iald0 dLa_law_768).trans (ite_c (w_virt (vs := [.int (E.2 (a3 + 1).toNatClampNeg), .int (E.2 (a3 + (nI 2)).toNatClampNeg)]) (st' := [.int s0]) (es := [.ref 166, .int (E.2 (a3 + 1).toNatClampNeg), .int (E.2 (a3 + (nI 2)).toNatClampNeg)]) dLa_law_769 rz12_87 rfl sh_166 rfl rfl rfl (Nat.le_of_ble_eq_true rfl) (Nat.le_of_ble_eq_true rfl) rfl)))))))))))))
theorem bLa_law_772 {E : mEn} {d : Nat} {σ : mSt} {Q : mPost} {a3 : Int32} {s0 : Int32} {s1 : Int32} : WP E d mLa_law 772 [.ref 1000, .ref 0, .ref 166, .int a3] [.int s0, .int s1] σ Q = (if s1 = s0 then WP E d mLa_law 1788 [.ref 1000, .ref 0, .ref 166, .int a3] [] σ Q else WP E d mLa_law 775 [.ref 1000, .ref 0, .ref 166, .int a3] [] σ Q) := w_icmpeq (t := 1788) dLa_law_772 (by decide)
theorem bLa_law_775 {E : mEn} {d : Nat} {σ : mSt} {Q : mPost} {a3 : Int32} : WP E d mLa_law 775 [.ref 1000, .ref 0, .ref 166, .int a3] [] σ Q = Q (some (.int 0)) σ := (w_iconst (v := 0) dLa_law_775 rfl).trans (w_zret dLa_law_776 rfl (Or.inl rfl))
theorem bLa_law_777 {E : mEn} {d : Nat} {σ : mSt} {Q : mPost} {a3 : Int32} : WP E (d + 1) mLa_law 777 [.ref 1000, .ref 0, .ref 166, .int a3] [] σ Q = (if mOut (a3 + 1) E.1 = true then False else WP E d mPb_deep 0 [.ref 0, .int (E.2 (a3 + 1).toNatClampNeg)] [] σ (fun r σ' => WP E (d + 1) mLa_law 786 [.ref 1000, .ref 0, .ref 166, .int a3] (r.toList ++ []) σ' Q)) := (w_aload_n dLa_law_777 rfl).trans ((w_aload_n dLa_law_778 rfl).trans ((w_iload_n dLa_law_779 rfl).trans ((w_iconst (v := 1) dLa_law_780 rfl).trans ((w_iadd dLa_law_781).trans ((w_iald0 dLa_law_782).trans (ite_c (w_virt (vs := [.int (E.2 (a3 + 1).toNatClampNeg)]) (st' := []) (es := [.ref 0, .int (E.2 (a3 + 1).toNatClampNeg)]) dLa_law_783 rz12_88 rfl sh_0 rfl rfl rfl (Nat.le_of_ble_eq_true rfl) (Nat.le_of_ble_eq_true rfl) rfl)))))))
theorem bLa_law_786 {E : mEn} {d : Nat} {σ : mSt} {Q : mPost} {a3 : Int32} {s0 : Int32} : WP E (d + 1) mLa_law 786 [.ref 1000, .ref 0, .ref 166, .int a3] [.int s0] σ Q = (if mOut (a3 + 1) E.1 = true then False else WP E d mMo_deep 0 [.ref 166, .int (E.2 (a3 + 1).toNatClampNeg), uu, uu] [] σ (fun r σ' => WP E (d + 1) mLa_law 795 [.ref 1000, .ref 0, .ref 166, .int a3] (r.toList ++ [.int s0]) σ' Q)) := (w_aload_n dLa_law_786 rfl).trans ((w_aload_n dLa_law_787 rfl).trans ((w_iload_n dLa_law_788 rfl).trans ((w_iconst (v := 1) dLa_law_789 rfl).trans ((w_iadd dLa_law_790).trans ((w_iald0 dLa_law_791).trans (ite_c (w_virt (vs := [.int (E.2 (a3 + 1).toNatClampNeg)]) (st' := [.int s0]) (es := [.ref 166, .int (E.2 (a3 + 1).toNatClampNeg), uu, uu]) dLa_law_792 rz12_91 rfl sh_166 rfl rfl rfl (Nat.le_of_ble_eq_true rfl) (Nat.le_of_ble_eq_true rfl) rfl)))))))
theorem bLa_law_795 {E : mEn} {d : Nat} {σ : mSt} {Q : mPost} {a3 : Int32} {s0 : Int32} {s1 : Int32} : WP E d mLa_law 795 [.ref 1000, .ref 0, .ref 166, .int a3] [.int s0, .int s1] σ Q = (if s1 = s0 then WP E d mLa_law 1788 [.ref 1000, .ref 0, .ref 166, .int a3] [] σ Q else WP E d mLa_law 798 [.ref 1000, .ref 0, .ref 166, .int a3] [] σ Q) := w_icmpeq (t := 1788) dLa_law_795 (by decide)
theorem bLa_law_798 {E : mEn} {d : Nat} {σ : mSt} {Q : mPost} {a3 : Int32} : WP E d mLa_law 798 [.ref 1000, .ref 0, .ref 166, .int a3] [] σ Q = Q (some (.int 0)) σ := (w_iconst (v := 0) dLa_law_798 rfl).trans (w_zret dLa_law_799 rfl (Or.inl rfl))
theorem bLa_law_800 {E : mEn} {d : Nat} {σ : mSt} {Q : mPost} {a3 : Int32} : WP E (d + 1) mLa_law 800 [.ref 1000, .ref 0, .ref 166, .int a3] [] σ Q = (if mOut (a3 + 1) E.1 = true then False else (if mOut (a3 + (nI 2)) E.1 = true then False else (if mOut (a3 + (nI 3)) E.1 = true then False else WP E d mPb_first 0 [.ref 0, .int (E.2 (a3 + 1).toNatClampNeg), .int (E.2 (a3 + (nI 2)).toNatClampNeg), .int (E.2 (a3 + (nI 3)).toNatClampNeg)] [] σ (fun r σ' => WP E (d + 1) mLa_law 819 [.ref 1000, .ref 0, .ref 166, .int a3] (r.toList ++ []) σ' Q)))) := (w_aload_n dLa_law_800 rfl).trans ((w_aload_n dLa_law_801 rfl).trans ((w_iload_n dLa_law_802 rfl).trans ((w_iconst (v := 1) dLa_law_803 rfl).trans ((w_iadd dLa_law_804).trans ((w_iald0 dLa_law_805).trans (ite_c ((w_aload_n dLa_law_806 rfl).trans ((w_iload_n dLa_law_807 rfl).trans ((w_iconst (v := (nI 2)) dLa_law_808 rfl).trans ((w_iadd dLa_law_809).trans ((w_iald0 dLa_law_810).trans (ite_c ((w_aload_n dLa_law_811 rfl).trans ((w_iload_n dLa_law_812 rfl).trans ((w_iconst (v := (nI 3)) dLa_law_813 rfl).trans ((w_iadd dLa_law_814).trans ((w_iald0 dLa_law_815).trans (ite_c (w_virt (vs := [.int (E.2 (a3 + 1).toNatClampNeg), .int (E.2 (a3 + (nI 2)).toNatClampNeg), .int (E.2 (a3 + (nI 3)).toNatClampNeg)]) (st' := []) (es := [.ref 0, .int (E.2 (a3 + 1).toNatClampNeg), .int (E.2 (a3 + (nI 2)).toNatClampNeg), .int (E.2 (a3 + (nI 3)).toNatClampNeg)]) dLa_law_816 rz12_92 rfl sh_0 rfl rfl rfl (Nat.le_of_ble_eq_true rfl) (Nat.le_of_ble_eq_true rfl) rfl)))))))))))))))))))
theorem bLa_law_819 {E : mEn} {d : Nat} {σ : mSt} {Q : mPost} {a3 : Int32} {s0 : Int32} : WP E (d + 1) mLa_law 819 [.ref 1000, .ref 0, .ref 166, .int a3] [.int s0] σ Q = (if mOut (a3 + 1) E.1 = true then False else (if mOut (a3 + (nI 2)) E.1 = true then False else (if mOut (a3 + (nI 3)) E.1 = true then False else WP E d mMo_first 0 [.ref 166, .int (E.2 (a3 + 1).toNatClampNeg), .int (E.2 (a3 + (nI 2)).toNatClampNeg), .int (E.2 (a3 + (nI 3)).toNatClampNeg)] [] σ (fun r σ' => WP E (d + 1) mLa_law 838 [.ref 1000, .ref 0, .ref 166, .int a3] (r.toList ++ [.int s0]) σ' Q)))) := (w_aload_n dLa_law_819 rfl).trans ((w_aload_n dLa_law_820 rfl).trans ((w_iload_n dLa_law_821 rfl).trans ((w_iconst (v := 1) dLa_law_822 rfl).trans ((w_iadd dLa_law_823).trans ((w_iald0 dLa_law_824).trans (ite_c ((w_aload_n dLa_law_825 rfl).trans ((w_iload_n dLa_law_826 rfl).trans ((w_iconst (v := (nI 2)) dLa_law_827 rfl).trans ((w_iadd dLa_law_828).trans ((w_iald0 dLa_law_829).trans (ite_c ((w_aload_n dLa_law_830 rfl).trans ((w_iload_n dLa_law_831 rfl).trans ((w_iconst (v := (nI 3)) dLa_law_832 rfl).trans ((w_iadd dLa_law_833).trans ((w_iald0 dLa_law_834).trans (ite_c (w_virt (vs := [.int (E.2 (a3 + 1).toNatClampNeg), .int (E.2 (a3 + (nI 2)).toNatClampNeg), .int (E.2 (a3 + (nI 3)).toNatClampNeg)]) (st' := [.int s0]) (es := [.ref 166, .int (E.2 (a3 + 1).toNatClampNeg), .int (E.2 (a3 + (nI 2)).toNatClampNeg), .int (E.2 (a3 + (nI 3)).toNatClampNeg)]) dLa_law_835 rz12_96 rfl sh_166 rfl rfl rfl (Nat.le_of_ble_eq_true rfl) (Nat.le_of_ble_eq_true rfl) rfl)))))))))))))))))))
theorem bLa_law_838 {E : mEn} {d : Nat} {σ : mSt} {Q : mPost} {a3 : Int32} {s0 : Int32} {s1 : Int32} : WP E d mLa_law 838 [.ref 1000, .ref 0, .ref 166, .int a3] [.int s0, .int s1] σ Q = (if s1 = s0 then WP E d mLa_law 1788 [.ref 1000, .ref 0, .ref 166, .int a3] [] σ Q else WP E d mLa_law 841 [.ref 1000, .ref 0, .ref 166, .int a3] [] σ Q) := w_icmpeq (t := 1788) dLa_law_838 (by decide)
theorem bLa_law_841 {E : mEn} {d : Nat} {σ : mSt} {Q : mPost} {a3 : Int32} : WP E d mLa_law 841 [.ref 1000, .ref 0, .ref 166, .int a3] [] σ Q = Q (some (.int 0)) σ := (w_iconst (v := 0) dLa_law_841 rfl).trans (w_zret dLa_law_842 rfl (Or.inl rfl))
theorem bLa_law_843 {E : mEn} {d : Nat} {σ : mSt} {Q : mPost} {a3 : Int32} : WP E (d + 1) mLa_law 843 [.ref 1000, .ref 0, .ref 166, .int a3] [] σ Q = (if mOut (a3 + 1) E.1 = true then False else (if mOut (a3 + (nI 2)) E.1 = true then False else WP E d mPb_line 0 [.ref 0, .int (E.2 (a3 + 1).toNatClampNeg), .int (E.2 (a3 + (nI 2)).toNatClampNeg)] [] σ (fun r σ' => WP E (d + 1) mLa_law 857 [.ref 1000, .ref 0, .ref 166, .int a3] (r.toList ++ []) σ' Q))) := (w_aload_n dLa_law_843 rfl).trans ((w_aload_n dLa_law_844 rfl).trans ((w_iload_n dLa_law_845 rfl).trans ((w_iconst (v := 1) dLa_law_846 rfl).trans ((w_iadd dLa_law_847).trans ((w_iald0 dLa_law_848).trans (ite_c ((w_aload_n dLa_law_849 rfl).trans ((w_iload_n dLa_law_850 rfl).trans ((w_iconst (v := (nI 2)) dLa_law_851 rfl).trans ((w_iadd dLa_law_852).trans ((w_iald0 dLa_law_853).trans (ite_c (w_virt (vs := [.int (E.2 (a3 + 1).toNatClampNeg), .int (E.2 (a3 + (nI 2)).toNatClampNeg)]) (st' := []) (es := [.ref 0, .int (E.2 (a3 + 1).toNatClampNeg), .int (E.2 (a3 + (nI 2)).toNatClampNeg)]) dLa_law_854 rz12_97 rfl sh_0 rfl rfl rfl (Nat.le_of_ble_eq_true rfl) (Nat.le_of_ble_eq_true rfl) rfl)))))))))))))
theorem bLa_law_857 {E : mEn} {d : Nat} {σ : mSt} {Q : mPost} {a3 : Int32} {s0 : Int32} : WP E (d + 1) mLa_law 857 [.ref 1000, .ref 0, .ref 166, .int a3] [.int s0] σ Q = (if mOut (a3 + 1) E.1 = true then False else (if mOut (a3 + (nI 2)) E.1 = true then False else WP E d mMo_line 0 [.ref 166, .int (E.2 (a3 + 1).toNatClampNeg), .int (E.2 (a3 + (nI 2)).toNatClampNeg)] [] σ (fun r σ' => WP E (d + 1) mLa_law 871 [.ref 1000, .ref 0, .ref 166, .int a3] (r.toList ++ [.int s0]) σ' Q))) := (w_aload_n dLa_law_857 rfl).trans ((w_aload_n dLa_law_858 rfl).trans ((w_iload_n dLa_law_859 rfl).trans ((w_iconst (v := 1) dLa_law_860 rfl).trans ((w_iadd dLa_law_861).trans ((w_iald0 dLa_law_862).trans (ite_c ((w_aload_n dLa_law_863 rfl).trans ((w_iload_n dLa_law_864 rfl).trans ((w_iconst (v := (nI 2)) dLa_law_865 rfl).trans ((w_iadd dLa_law_866).trans ((w_iald0 dLa_law_867).trans (ite_c (w_virt (vs := [.int (E.2 (a3 + 1).toNatClampNeg), .int (E.2 (a3 + (nI 2)).toNatClampNeg)]) (st' := [.int s0]) (es := [.ref 166, .int (E.2 (a3 + 1).toNatClampNeg), .int (E.2 (a3 + (nI 2)).toNatClampNeg)]) dLa_law_868 rz12_100 rfl sh_166 rfl rfl rfl (Nat.le_of_ble_eq_true rfl) (Nat.le_of_ble_eq_true rfl) rfl)))))))))))))
theorem bLa_law_871 {E : mEn} {d : Nat} {σ : mSt} {Q : mPost} {a3 : Int32} {s0 : Int32} {s1 : Int32} : WP E d mLa_law 871 [.ref 1000, .ref 0, .ref 166, .int a3] [.int s0, .int s1] σ Q = (if s1 = s0 then WP E d mLa_law 1788 [.ref 1000, .ref 0, .ref 166, .int a3] [] σ Q else WP E d mLa_law 874 [.ref 1000, .ref 0, .ref 166, .int a3] [] σ Q) := w_icmpeq (t := 1788) dLa_law_871 (by decide)
theorem bLa_law_874 {E : mEn} {d : Nat} {σ : mSt} {Q : mPost} {a3 : Int32} : WP E d mLa_law 874 [.ref 1000, .ref 0, .ref 166, .int a3] [] σ Q = Q (some (.int 0)) σ := (w_iconst (v := 0) dLa_law_874 rfl).trans (w_zret dLa_law_875 rfl (Or.inl rfl))
theorem bLa_law_876 {E : mEn} {d : Nat} {σ : mSt} {Q : mPost} {a3 : Int32} : WP E d mLa_law 876 [.ref 1000, .ref 0, .ref 166, .int a3] [] σ Q = (if mOut (a3 + 1) E.1 = true then False else (if mOut (a3 + (nI 2)) E.1 = true then False else (if mOut (a3 + (nI 3)) E.1 = true then False else (if (E.2 (a3 + (nI 3)).toNatClampNeg) = 0 then WP E d mLa_law 899 [.ref 1000, .ref 0, .ref 166, .int a3] [.int (E.2 (a3 + (nI 2)).toNatClampNeg), .int (E.2 (a3 + 1).toNatClampNeg), .ref 0] σ Q else WP E d mLa_law 895 [.ref 1000, .ref 0, .ref 166, .int a3] [.int (E.2 (a3 + (nI 2)).toNatClampNeg), .int (E.2 (a3 + 1).toNatClampNeg), .ref 0] σ Q)))) := (w_aload_n dLa_law_876 rfl).trans ((w_aload_n dLa_law_877 rfl).trans ((w_iload_n dLa_law_878 rfl).trans ((w_iconst (v := 1) dLa_law_879 rfl).trans ((w_iadd dLa_law_880).trans ((w_iald0 dLa_law_881).trans (ite_c ((w_aload_n dLa_law_882 rfl).trans ((w_iload_n dLa_law_883 rfl).trans ((w_iconst (v := (nI 2)) dLa_law_884 rfl).trans ((w_iadd dLa_law_885).trans ((w_iald0 dLa_law_886).trans (ite_c ((w_aload_n dLa_law_887 rfl).trans ((w_iload_n dLa_law_888 rfl).trans ((w_iconst (v := (nI 3)) dLa_law_889 rfl).trans ((w_iadd dLa_law_890).trans ((w_iald0 dLa_law_891).trans (ite_c (w_ifeq (t := 899) dLa_law_892 (by decide))))))))))))))))))))
theorem bLa_law_895 {E : mEn} {d : Nat} {σ : mSt} {Q : mPost} {a3 : Int32} {s0 : Int32} {s1 : Int32} : WP E d mLa_law 895 [.ref 1000, .ref 0, .ref 166, .int a3] [.int s0, .int s1, .ref 0] σ Q = WP E d mLa_law 900 [.ref 1000, .ref 0, .ref 166, .int a3] [.int 1, .int s0, .int s1, .ref 0] σ Q := (w_iconst (v := 1) dLa_law_895 rfl).trans (w_goto (t := 900) dLa_law_896 (by decide))
theorem bLa_law_899 {E : mEn} {d : Nat} {σ : mSt} {Q : mPost} {a3 : Int32} {s0 : Int32} {s1 : Int32} : WP E d mLa_law 899 [.ref 1000, .ref 0, .ref 166, .int a3] [.int s0, .int s1, .ref 0] σ Q = WP E d mLa_law 900 [.ref 1000, .ref 0, .ref 166, .int a3] [.int 0, .int s0, .int s1, .ref 0] σ Q := w_iconst (v := 0) dLa_law_899 rfl
theorem bLa_law_900 {E : mEn} {d : Nat} {σ : mSt} {Q : mPost} {a3 : Int32} {s0 : Int32} {s1 : Int32} {s2 : Int32} : WP E (d + 1) mLa_law 900 [.ref 1000, .ref 0, .ref 166, .int a3] [.int s0, .int s1, .int s2, .ref 0] σ Q = WP E d mPb_whose 0 [.ref 0, .int s2, .int s1, .int s0, uu] [] σ (fun r σ' => WP E (d + 1) mLa_law 903 [.ref 1000, .ref 0, .ref 166, .int a3] (r.toList ++ []) σ' Q) := w_virt (vs := [.int s2, .int s1, .int s0]) (st' := []) (es := [.ref 0, .int s2, .int s1, .int s0, uu]) dLa_law_900 rz12_101 rfl sh_0 rfl rfl rfl (Nat.le_of_ble_eq_true rfl) (Nat.le_of_ble_eq_true rfl) rfl
theorem bLa_law_903 {E : mEn} {d : Nat} {σ : mSt} {Q : mPost} {a3 : Int32} {s0 : Int32} : WP E d mLa_law 903 [.ref 1000, .ref 0, .ref 166, .int a3] [.int s0] σ Q = (if mOut (a3 + 1) E.1 = true then False else (if mOut (a3 + (nI 2)) E.1 = true then False else (if mOut (a3 + (nI 3)) E.1 = true then False else (if (E.2 (a3 + (nI 3)).toNatClampNeg) = 0 then WP E d mLa_law 926 [.ref 1000, .ref 0, .ref 166, .int a3] [.int (E.2 (a3 + (nI 2)).toNatClampNeg), .int (E.2 (a3 + 1).toNatClampNeg), .ref 166, .int s0] σ Q else WP E d mLa_law 922 [.ref 1000, .ref 0, .ref 166, .int a3] [.int (E.2 (a3 + (nI 2)).toNatClampNeg), .int (E.2 (a3 + 1).toNatClampNeg), .ref 166, .int s0] σ Q)))) := (w_aload_n dLa_law_903 rfl).trans ((w_aload_n dLa_law_904 rfl).trans ((w_iload_n dLa_law_905 rfl).trans ((w_iconst (v := 1) dLa_law_906 rfl).trans ((w_iadd dLa_law_907).trans ((w_iald0 dLa_law_908).trans (ite_c ((w_aload_n dLa_law_909 rfl).trans ((w_iload_n dLa_law_910 rfl).trans ((w_iconst (v := (nI 2)) dLa_law_911 rfl).trans ((w_iadd dLa_law_912).trans ((w_iald0 dLa_law_913).trans (ite_c ((w_aload_n dLa_law_914 rfl).trans ((w_iload_n dLa_law_915 rfl).trans ((w_iconst (v := (nI 3)) dLa_law_916 rfl).trans ((w_iadd dLa_law_917).trans ((w_iald0 dLa_law_918).trans (ite_c (w_ifeq (t := 926) dLa_law_919 (by decide))))))))))))))))))))
theorem bLa_law_922 {E : mEn} {d : Nat} {σ : mSt} {Q : mPost} {a3 : Int32} {s0 : Int32} {s1 : Int32} {s3 : Int32} : WP E d mLa_law 922 [.ref 1000, .ref 0, .ref 166, .int a3] [.int s0, .int s1, .ref 166, .int s3] σ Q = WP E d mLa_law 927 [.ref 1000, .ref 0, .ref 166, .int a3] [.int 1, .int s0, .int s1, .ref 166, .int s3] σ Q := (w_iconst (v := 1) dLa_law_922 rfl).trans (w_goto (t := 927) dLa_law_923 (by decide))
theorem bLa_law_926 {E : mEn} {d : Nat} {σ : mSt} {Q : mPost} {a3 : Int32} {s0 : Int32} {s1 : Int32} {s3 : Int32} : WP E d mLa_law 926 [.ref 1000, .ref 0, .ref 166, .int a3] [.int s0, .int s1, .ref 166, .int s3] σ Q = WP E d mLa_law 927 [.ref 1000, .ref 0, .ref 166, .int a3] [.int 0, .int s0, .int s1, .ref 166, .int s3] σ Q := w_iconst (v := 0) dLa_law_926 rfl
theorem bLa_law_927 {E : mEn} {d : Nat} {σ : mSt} {Q : mPost} {a3 : Int32} {s0 : Int32} {s1 : Int32} {s2 : Int32} {s4 : Int32} : WP E (d + 1) mLa_law 927 [.ref 1000, .ref 0, .ref 166, .int a3] [.int s0, .int s1, .int s2, .ref 166, .int s4] σ Q = WP E d mMo_whose 0 [.ref 166, .int s2, .int s1, .int s0, uu, uu] [] σ (fun r σ' => WP E (d + 1) mLa_law 930 [.ref 1000, .ref 0, .ref 166, .int a3] (r.toList ++ [.int s4]) σ' Q) := w_virt (vs := [.int s2, .int s1, .int s0]) (st' := [.int s4]) (es := [.ref 166, .int s2, .int s1, .int s0, uu, uu]) dLa_law_927 rz12_105 rfl sh_166 rfl rfl rfl (Nat.le_of_ble_eq_true rfl) (Nat.le_of_ble_eq_true rfl) rfl
theorem bLa_law_930 {E : mEn} {d : Nat} {σ : mSt} {Q : mPost} {a3 : Int32} {s0 : Int32} {s1 : Int32} : WP E d mLa_law 930 [.ref 1000, .ref 0, .ref 166, .int a3] [.int s0, .int s1] σ Q = (if s1 = s0 then WP E d mLa_law 1788 [.ref 1000, .ref 0, .ref 166, .int a3] [] σ Q else WP E d mLa_law 933 [.ref 1000, .ref 0, .ref 166, .int a3] [] σ Q) := w_icmpeq (t := 1788) dLa_law_930 (by decide)
theorem bLa_law_933 {E : mEn} {d : Nat} {σ : mSt} {Q : mPost} {a3 : Int32} : WP E d mLa_law 933 [.ref 1000, .ref 0, .ref 166, .int a3] [] σ Q = Q (some (.int 0)) σ := (w_iconst (v := 0) dLa_law_933 rfl).trans (w_zret dLa_law_934 rfl (Or.inl rfl))
theorem bLa_law_935 {E : mEn} {d : Nat} {σ : mSt} {Q : mPost} {a3 : Int32} : WP E (d + 1) mLa_law 935 [.ref 1000, .ref 0, .ref 166, .int a3] [] σ Q = (if mOut (a3 + 1) E.1 = true then False else WP E d mPb_depth 0 [.ref 0, .int (E.2 (a3 + 1).toNatClampNeg), uu, uu] [] σ (fun r σ' => WP E (d + 1) mLa_law 944 [.ref 1000, .ref 0, .ref 166, .int a3] (r.toList ++ []) σ' Q)) := (w_aload_n dLa_law_935 rfl).trans ((w_aload_n dLa_law_936 rfl).trans ((w_iload_n dLa_law_937 rfl).trans ((w_iconst (v := 1) dLa_law_938 rfl).trans ((w_iadd dLa_law_939).trans ((w_iald0 dLa_law_940).trans (ite_c (w_virt (vs := [.int (E.2 (a3 + 1).toNatClampNeg)]) (st' := []) (es := [.ref 0, .int (E.2 (a3 + 1).toNatClampNeg), uu, uu]) dLa_law_941 rz12_106 rfl sh_0 rfl rfl rfl (Nat.le_of_ble_eq_true rfl) (Nat.le_of_ble_eq_true rfl) rfl)))))))
theorem bLa_law_944 {E : mEn} {d : Nat} {σ : mSt} {Q : mPost} {a3 : Int32} {s0 : Int32} : WP E (d + 1) mLa_law 944 [.ref 1000, .ref 0, .ref 166, .int a3] [.int s0] σ Q = (if mOut (a3 + 1) E.1 = true then False else WP E d mMo_depth 0 [.ref 166, .int (E.2 (a3 + 1).toNatClampNeg)] [] σ (fun r σ' => WP E (d + 1) mLa_law 953 [.ref 1000, .ref 0, .ref 166, .int a3] (r.toList ++ [.int s0]) σ' Q)) := (w_aload_n dLa_law_944 rfl).trans ((w_aload_n dLa_law_945 rfl).trans ((w_iload_n dLa_law_946 rfl).trans ((w_iconst (v := 1) dLa_law_947 rfl).trans ((w_iadd dLa_law_948).trans ((w_iald0 dLa_law_949).trans (ite_c (w_virt (vs := [.int (E.2 (a3 + 1).toNatClampNeg)]) (st' := [.int s0]) (es := [.ref 166, .int (E.2 (a3 + 1).toNatClampNeg)]) dLa_law_950 rz12_109 rfl sh_166 rfl rfl rfl (Nat.le_of_ble_eq_true rfl) (Nat.le_of_ble_eq_true rfl) rfl)))))))
theorem bLa_law_953 {E : mEn} {d : Nat} {σ : mSt} {Q : mPost} {a3 : Int32} {s0 : Int32} {s1 : Int32} : WP E d mLa_law 953 [.ref 1000, .ref 0, .ref 166, .int a3] [.int s0, .int s1] σ Q = (if s1 = s0 then WP E d mLa_law 1788 [.ref 1000, .ref 0, .ref 166, .int a3] [] σ Q else WP E d mLa_law 956 [.ref 1000, .ref 0, .ref 166, .int a3] [] σ Q) := w_icmpeq (t := 1788) dLa_law_953 (by decide)
theorem bLa_law_956 {E : mEn} {d : Nat} {σ : mSt} {Q : mPost} {a3 : Int32} : WP E d mLa_law 956 [.ref 1000, .ref 0, .ref 166, .int a3] [] σ Q = Q (some (.int 0)) σ := (w_iconst (v := 0) dLa_law_956 rfl).trans (w_zret dLa_law_957 rfl (Or.inl rfl))
theorem bLa_law_958 {E : mEn} {d : Nat} {σ : mSt} {Q : mPost} {a3 : Int32} : WP E (d + 1) mLa_law 958 [.ref 1000, .ref 0, .ref 166, .int a3] [] σ Q = (if mOut (a3 + 1) E.1 = true then False else (if mOut (a3 + (nI 2)) E.1 = true then False else WP E d mPb_between 0 [.ref 0, .int (E.2 (a3 + 1).toNatClampNeg), .int (E.2 (a3 + (nI 2)).toNatClampNeg)] [] σ (fun r σ' => WP E (d + 1) mLa_law 972 [.ref 1000, .ref 0, .ref 166, .int a3] (r.toList ++ []) σ' Q))) := (w_aload_n dLa_law_958 rfl).trans ((w_aload_n dLa_law_959 rfl).trans ((w_iload_n dLa_law_960 rfl).trans ((w_iconst (v := 1) dLa_law_961 rfl).trans ((w_iadd dLa_law_962).trans ((w_iald0 dLa_law_963).trans (ite_c ((w_aload_n dLa_law_964 rfl).trans ((w_iload_n dLa_law_965 rfl).trans ((w_iconst (v := (nI 2)) dLa_law_966 rfl).trans ((w_iadd dLa_law_967).trans ((w_iald0 dLa_law_968).trans (ite_c (w_virt (vs := [.int (E.2 (a3 + 1).toNatClampNeg), .int (E.2 (a3 + (nI 2)).toNatClampNeg)]) (st' := []) (es := [.ref 0, .int (E.2 (a3 + 1).toNatClampNeg), .int (E.2 (a3 + (nI 2)).toNatClampNeg)]) dLa_law_969 rz12_110 rfl sh_0 rfl rfl rfl (Nat.le_of_ble_eq_true rfl) (Nat.le_of_ble_eq_true rfl) rfl)))))))))))))
theorem bLa_law_972 {E : mEn} {d : Nat} {σ : mSt} {Q : mPost} {a3 : Int32} {s0 : Int32} : WP E (d + 1) mLa_law 972 [.ref 1000, .ref 0, .ref 166, .int a3] [.int s0] σ Q = (if mOut (a3 + 1) E.1 = true then False else (if mOut (a3 + (nI 2)) E.1 = true then False else WP E d mMo_between 0 [.ref 166, .int (E.2 (a3 + 1).toNatClampNeg), .int (E.2 (a3 + (nI 2)).toNatClampNeg), uu, uu] [] σ (fun r σ' => WP E (d + 1) mLa_law 986 [.ref 1000, .ref 0, .ref 166, .int a3] (r.toList ++ [.int s0]) σ' Q))) := (w_aload_n dLa_law_972 rfl).trans ((w_aload_n dLa_law_973 rfl).trans ((w_iload_n dLa_law_974 rfl).trans ((w_iconst (v := 1) dLa_law_975 rfl).trans ((w_iadd dLa_law_976).trans ((w_iald0 dLa_law_977).trans (ite_c ((w_aload_n dLa_law_978 rfl).trans ((w_iload_n dLa_law_979 rfl).trans ((w_iconst (v := (nI 2)) dLa_law_980 rfl).trans ((w_iadd dLa_law_981).trans ((w_iald0 dLa_law_982).trans (ite_c (w_virt (vs := [.int (E.2 (a3 + 1).toNatClampNeg), .int (E.2 (a3 + (nI 2)).toNatClampNeg)]) (st' := [.int s0]) (es := [.ref 166, .int (E.2 (a3 + 1).toNatClampNeg), .int (E.2 (a3 + (nI 2)).toNatClampNeg), uu, uu]) dLa_law_983 rz12_113 rfl sh_166 rfl rfl rfl (Nat.le_of_ble_eq_true rfl) (Nat.le_of_ble_eq_true rfl) rfl)))))))))))))
theorem bLa_law_986 {E : mEn} {d : Nat} {σ : mSt} {Q : mPost} {a3 : Int32} {s0 : Int32} {s1 : Int32} : WP E d mLa_law 986 [.ref 1000, .ref 0, .ref 166, .int a3] [.int s0, .int s1] σ Q = (if s1 = s0 then WP E d mLa_law 1788 [.ref 1000, .ref 0, .ref 166, .int a3] [] σ Q else WP E d mLa_law 989 [.ref 1000, .ref 0, .ref 166, .int a3] [] σ Q) := w_icmpeq (t := 1788) dLa_law_986 (by decide)
theorem bLa_law_989 {E : mEn} {d : Nat} {σ : mSt} {Q : mPost} {a3 : Int32} : WP E d mLa_law 989 [.ref 1000, .ref 0, .ref 166, .int a3] [] σ Q = Q (some (.int 0)) σ := (w_iconst (v := 0) dLa_law_989 rfl).trans (w_zret dLa_law_990 rfl (Or.inl rfl))
theorem bLa_law_991 {E : mEn} {d : Nat} {σ : mSt} {Q : mPost} {a3 : Int32} : WP E d mLa_law 991 [.ref 1000, .ref 0, .ref 166, .int a3] [] σ Q = (if mOut (a3 + 1) E.1 = true then False else (if mOut (a3 + (nI 2)) E.1 = true then False else (if mOut (a3 + (nI 3)) E.1 = true then False else (if (E.2 (a3 + (nI 3)).toNatClampNeg) = 0 then WP E d mLa_law 1014 [.ref 1000, .ref 0, .ref 166, .int a3] [.int (E.2 (a3 + (nI 2)).toNatClampNeg), .int (E.2 (a3 + 1).toNatClampNeg), .ref 0] σ Q else WP E d mLa_law 1010 [.ref 1000, .ref 0, .ref 166, .int a3] [.int (E.2 (a3 + (nI 2)).toNatClampNeg), .int (E.2 (a3 + 1).toNatClampNeg), .ref 0] σ Q)))) := (w_aload_n dLa_law_991 rfl).trans ((w_aload_n dLa_law_992 rfl).trans ((w_iload_n dLa_law_993 rfl).trans ((w_iconst (v := 1) dLa_law_994 rfl).trans ((w_iadd dLa_law_995).trans ((w_iald0 dLa_law_996).trans (ite_c ((w_aload_n dLa_law_997 rfl).trans ((w_iload_n dLa_law_998 rfl).trans ((w_iconst (v := (nI 2)) dLa_law_999 rfl).trans ((w_iadd dLa_law_1000).trans ((w_iald0 dLa_law_1001).trans (ite_c ((w_aload_n dLa_law_1002 rfl).trans ((w_iload_n dLa_law_1003 rfl).trans ((w_iconst (v := (nI 3)) dLa_law_1004 rfl).trans ((w_iadd dLa_law_1005).trans ((w_iald0 dLa_law_1006).trans (ite_c (w_ifeq (t := 1014) dLa_law_1007 (by decide))))))))))))))))))))
theorem bLa_law_1010 {E : mEn} {d : Nat} {σ : mSt} {Q : mPost} {a3 : Int32} {s0 : Int32} {s1 : Int32} : WP E d mLa_law 1010 [.ref 1000, .ref 0, .ref 166, .int a3] [.int s0, .int s1, .ref 0] σ Q = WP E d mLa_law 1015 [.ref 1000, .ref 0, .ref 166, .int a3] [.int 1, .int s0, .int s1, .ref 0] σ Q := (w_iconst (v := 1) dLa_law_1010 rfl).trans (w_goto (t := 1015) dLa_law_1011 (by decide))
theorem bLa_law_1014 {E : mEn} {d : Nat} {σ : mSt} {Q : mPost} {a3 : Int32} {s0 : Int32} {s1 : Int32} : WP E d mLa_law 1014 [.ref 1000, .ref 0, .ref 166, .int a3] [.int s0, .int s1, .ref 0] σ Q = WP E d mLa_law 1015 [.ref 1000, .ref 0, .ref 166, .int a3] [.int 0, .int s0, .int s1, .ref 0] σ Q := w_iconst (v := 0) dLa_law_1014 rfl
theorem bLa_law_1015 {E : mEn} {d : Nat} {σ : mSt} {Q : mPost} {a3 : Int32} {s0 : Int32} {s1 : Int32} {s2 : Int32} : WP E (d + 1) mLa_law 1015 [.ref 1000, .ref 0, .ref 166, .int a3] [.int s0, .int s1, .int s2, .ref 0] σ Q = WP E d mPb_gets 0 [.ref 0, .int s2, .int s1, .int s0] [] σ (fun r σ' => WP E (d + 1) mLa_law 1018 [.ref 1000, .ref 0, .ref 166, .int a3] (r.toList ++ []) σ' Q) := w_virt (vs := [.int s2, .int s1, .int s0]) (st' := []) (es := [.ref 0, .int s2, .int s1, .int s0]) dLa_law_1015 rz12_114 rfl sh_0 rfl rfl rfl (Nat.le_of_ble_eq_true rfl) (Nat.le_of_ble_eq_true rfl) rfl
theorem bLa_law_1018 {E : mEn} {d : Nat} {σ : mSt} {Q : mPost} {a3 : Int32} {s0 : Int32} : WP E d mLa_law 1018 [.ref 1000, .ref 0, .ref 166, .int a3] [.int s0] σ Q = (if mOut (a3 + 1) E.1 = true then False else (if mOut (a3 + (nI 2)) E.1 = true then False else (if mOut (a3 + (nI 3)) E.1 = true then False else (if (E.2 (a3 + (nI 3)).toNatClampNeg) = 0 then WP E d mLa_law 1041 [.ref 1000, .ref 0, .ref 166, .int a3] [.int (E.2 (a3 + (nI 2)).toNatClampNeg), .int (E.2 (a3 + 1).toNatClampNeg), .ref 166, .int s0] σ Q else WP E d mLa_law 1037 [.ref 1000, .ref 0, .ref 166, .int a3] [.int (E.2 (a3 + (nI 2)).toNatClampNeg), .int (E.2 (a3 + 1).toNatClampNeg), .ref 166, .int s0] σ Q)))) := (w_aload_n dLa_law_1018 rfl).trans ((w_aload_n dLa_law_1019 rfl).trans ((w_iload_n dLa_law_1020 rfl).trans ((w_iconst (v := 1) dLa_law_1021 rfl).trans ((w_iadd dLa_law_1022).trans ((w_iald0 dLa_law_1023).trans (ite_c ((w_aload_n dLa_law_1024 rfl).trans ((w_iload_n dLa_law_1025 rfl).trans ((w_iconst (v := (nI 2)) dLa_law_1026 rfl).trans ((w_iadd dLa_law_1027).trans ((w_iald0 dLa_law_1028).trans (ite_c ((w_aload_n dLa_law_1029 rfl).trans ((w_iload_n dLa_law_1030 rfl).trans ((w_iconst (v := (nI 3)) dLa_law_1031 rfl).trans ((w_iadd dLa_law_1032).trans ((w_iald0 dLa_law_1033).trans (ite_c (w_ifeq (t := 1041) dLa_law_1034 (by decide))))))))))))))))))))
theorem bLa_law_1037 {E : mEn} {d : Nat} {σ : mSt} {Q : mPost} {a3 : Int32} {s0 : Int32} {s1 : Int32} {s3 : Int32} : WP E d mLa_law 1037 [.ref 1000, .ref 0, .ref 166, .int a3] [.int s0, .int s1, .ref 166, .int s3] σ Q = WP E d mLa_law 1042 [.ref 1000, .ref 0, .ref 166, .int a3] [.int 1, .int s0, .int s1, .ref 166, .int s3] σ Q := (w_iconst (v := 1) dLa_law_1037 rfl).trans (w_goto (t := 1042) dLa_law_1038 (by decide))
theorem bLa_law_1041 {E : mEn} {d : Nat} {σ : mSt} {Q : mPost} {a3 : Int32} {s0 : Int32} {s1 : Int32} {s3 : Int32} : WP E d mLa_law 1041 [.ref 1000, .ref 0, .ref 166, .int a3] [.int s0, .int s1, .ref 166, .int s3] σ Q = WP E d mLa_law 1042 [.ref 1000, .ref 0, .ref 166, .int a3] [.int 0, .int s0, .int s1, .ref 166, .int s3] σ Q := w_iconst (v := 0) dLa_law_1041 rfl
theorem bLa_law_1042 {E : mEn} {d : Nat} {σ : mSt} {Q : mPost} {a3 : Int32} {s0 : Int32} {s1 : Int32} {s2 : Int32} {s4 : Int32} : WP E (d + 1) mLa_law 1042 [.ref 1000, .ref 0, .ref 166, .int a3] [.int s0, .int s1, .int s2, .ref 166, .int s4] σ Q = WP E d mMo_gets 0 [.ref 166, .int s2, .int s1, .int s0] [] σ (fun r σ' => WP E (d + 1) mLa_law 1045 [.ref 1000, .ref 0, .ref 166, .int a3] (r.toList ++ [.int s4]) σ' Q) := w_virt (vs := [.int s2, .int s1, .int s0]) (st' := [.int s4]) (es := [.ref 166, .int s2, .int s1, .int s0]) dLa_law_1042 rz12_117 rfl sh_166 rfl rfl rfl (Nat.le_of_ble_eq_true rfl) (Nat.le_of_ble_eq_true rfl) rfl
theorem bLa_law_1045 {E : mEn} {d : Nat} {σ : mSt} {Q : mPost} {a3 : Int32} {s0 : Int32} {s1 : Int32} : WP E d mLa_law 1045 [.ref 1000, .ref 0, .ref 166, .int a3] [.int s0, .int s1] σ Q = (if s1 = s0 then WP E d mLa_law 1788 [.ref 1000, .ref 0, .ref 166, .int a3] [] σ Q else WP E d mLa_law 1048 [.ref 1000, .ref 0, .ref 166, .int a3] [] σ Q) := w_icmpeq (t := 1788) dLa_law_1045 (by decide)
theorem bLa_law_1048 {E : mEn} {d : Nat} {σ : mSt} {Q : mPost} {a3 : Int32} : WP E d mLa_law 1048 [.ref 1000, .ref 0, .ref 166, .int a3] [] σ Q = Q (some (.int 0)) σ := (w_iconst (v := 0) dLa_law_1048 rfl).trans (w_zret dLa_law_1049 rfl (Or.inl rfl))
theorem bLa_law_1050 {E : mEn} {d : Nat} {σ : mSt} {Q : mPost} {a3 : Int32} : WP E d mLa_law 1050 [.ref 1000, .ref 0, .ref 166, .int a3] [] σ Q = (if mOut (a3 + 1) E.1 = true then False else (if mOut (a3 + (nI 2)) E.1 = true then False else (if (E.2 (a3 + (nI 2)).toNatClampNeg) = 0 then WP E d mLa_law 1068 [.ref 1000, .ref 0, .ref 166, .int a3] [.int (E.2 (a3 + 1).toNatClampNeg), .ref 0] σ Q else WP E d mLa_law 1064 [.ref 1000, .ref 0, .ref 166, .int a3] [.int (E.2 (a3 + 1).toNatClampNeg), .ref 0] σ Q))) := (w_aload_n dLa_law_1050 rfl).trans ((w_aload_n dLa_law_1051 rfl).trans ((w_iload_n dLa_law_1052 rfl).trans ((w_iconst (v := 1) dLa_law_1053 rfl).trans ((w_iadd dLa_law_1054).trans ((w_iald0 dLa_law_1055).trans (ite_c ((w_aload_n dLa_law_1056 rfl).trans ((w_iload_n dLa_law_1057 rfl).trans ((w_iconst (v := (nI 2)) dLa_law_1058 rfl).trans ((w_iadd dLa_law_1059).trans ((w_iald0 dLa_law_1060).trans (ite_c (w_ifeq (t := 1068) dLa_law_1061 (by decide))))))))))))))
theorem bLa_law_1064 {E : mEn} {d : Nat} {σ : mSt} {Q : mPost} {a3 : Int32} {s0 : Int32} : WP E d mLa_law 1064 [.ref 1000, .ref 0, .ref 166, .int a3] [.int s0, .ref 0] σ Q = WP E d mLa_law 1069 [.ref 1000, .ref 0, .ref 166, .int a3] [.int 1, .int s0, .ref 0] σ Q := (w_iconst (v := 1) dLa_law_1064 rfl).trans (w_goto (t := 1069) dLa_law_1065 (by decide))
theorem bLa_law_1068 {E : mEn} {d : Nat} {σ : mSt} {Q : mPost} {a3 : Int32} {s0 : Int32} : WP E d mLa_law 1068 [.ref 1000, .ref 0, .ref 166, .int a3] [.int s0, .ref 0] σ Q = WP E d mLa_law 1069 [.ref 1000, .ref 0, .ref 166, .int a3] [.int 0, .int s0, .ref 0] σ Q := w_iconst (v := 0) dLa_law_1068 rfl
theorem bLa_law_1069 {E : mEn} {d : Nat} {σ : mSt} {Q : mPost} {a3 : Int32} {s0 : Int32} {s1 : Int32} : WP E (d + 1) mLa_law 1069 [.ref 1000, .ref 0, .ref 166, .int a3] [.int s0, .int s1, .ref 0] σ Q = WP E d mPb_shame 0 [.ref 0, .int s1, .int s0, uu, uu] [] σ (fun r σ' => WP E (d + 1) mLa_law 1072 [.ref 1000, .ref 0, .ref 166, .int a3] (r.toList ++ []) σ' Q) := w_virt (vs := [.int s1, .int s0]) (st' := []) (es := [.ref 0, .int s1, .int s0, uu, uu]) dLa_law_1069 rz12_118 rfl sh_0 rfl rfl rfl (Nat.le_of_ble_eq_true rfl) (Nat.le_of_ble_eq_true rfl) rfl
theorem bLa_law_1072 {E : mEn} {d : Nat} {σ : mSt} {Q : mPost} {a3 : Int32} {s0 : Int32} : WP E d mLa_law 1072 [.ref 1000, .ref 0, .ref 166, .int a3] [.int s0] σ Q = (if mOut (a3 + 1) E.1 = true then False else (if mOut (a3 + (nI 2)) E.1 = true then False else (if (E.2 (a3 + (nI 2)).toNatClampNeg) = 0 then WP E d mLa_law 1090 [.ref 1000, .ref 0, .ref 166, .int a3] [.int (E.2 (a3 + 1).toNatClampNeg), .ref 166, .int s0] σ Q else WP E d mLa_law 1086 [.ref 1000, .ref 0, .ref 166, .int a3] [.int (E.2 (a3 + 1).toNatClampNeg), .ref 166, .int s0] σ Q))) := (w_aload_n dLa_law_1072 rfl).trans ((w_aload_n dLa_law_1073 rfl).trans ((w_iload_n dLa_law_1074 rfl).trans ((w_iconst (v := 1) dLa_law_1075 rfl).trans ((w_iadd dLa_law_1076).trans ((w_iald0 dLa_law_1077).trans (ite_c ((w_aload_n dLa_law_1078 rfl).trans ((w_iload_n dLa_law_1079 rfl).trans ((w_iconst (v := (nI 2)) dLa_law_1080 rfl).trans ((w_iadd dLa_law_1081).trans ((w_iald0 dLa_law_1082).trans (ite_c (w_ifeq (t := 1090) dLa_law_1083 (by decide))))))))))))))
theorem bLa_law_1086 {E : mEn} {d : Nat} {σ : mSt} {Q : mPost} {a3 : Int32} {s0 : Int32} {s2 : Int32} : WP E d mLa_law 1086 [.ref 1000, .ref 0, .ref 166, .int a3] [.int s0, .ref 166, .int s2] σ Q = WP E d mLa_law 1091 [.ref 1000, .ref 0, .ref 166, .int a3] [.int 1, .int s0, .ref 166, .int s2] σ Q := (w_iconst (v := 1) dLa_law_1086 rfl).trans (w_goto (t := 1091) dLa_law_1087 (by decide))
theorem bLa_law_1090 {E : mEn} {d : Nat} {σ : mSt} {Q : mPost} {a3 : Int32} {s0 : Int32} {s2 : Int32} : WP E d mLa_law 1090 [.ref 1000, .ref 0, .ref 166, .int a3] [.int s0, .ref 166, .int s2] σ Q = WP E d mLa_law 1091 [.ref 1000, .ref 0, .ref 166, .int a3] [.int 0, .int s0, .ref 166, .int s2] σ Q := w_iconst (v := 0) dLa_law_1090 rfl
theorem bLa_law_1091 {E : mEn} {d : Nat} {σ : mSt} {Q : mPost} {a3 : Int32} {s0 : Int32} {s1 : Int32} {s3 : Int32} : WP E (d + 1) mLa_law 1091 [.ref 1000, .ref 0, .ref 166, .int a3] [.int s0, .int s1, .ref 166, .int s3] σ Q = WP E d mMo_shame 0 [.ref 166, .int s1, .int s0, uu, uu] [] σ (fun r σ' => WP E (d + 1) mLa_law 1094 [.ref 1000, .ref 0, .ref 166, .int a3] (r.toList ++ [.int s3]) σ' Q) := w_virt (vs := [.int s1, .int s0]) (st' := [.int s3]) (es := [.ref 166, .int s1, .int s0, uu, uu]) dLa_law_1091 rz12_122 rfl sh_166 rfl rfl rfl (Nat.le_of_ble_eq_true rfl) (Nat.le_of_ble_eq_true rfl) rfl
theorem bLa_law_1094 {E : mEn} {d : Nat} {σ : mSt} {Q : mPost} {a3 : Int32} {s0 : Int32} {s1 : Int32} : WP E d mLa_law 1094 [.ref 1000, .ref 0, .ref 166, .int a3] [.int s0, .int s1] σ Q = (if s1 = s0 then WP E d mLa_law 1788 [.ref 1000, .ref 0, .ref 166, .int a3] [] σ Q else WP E d mLa_law 1097 [.ref 1000, .ref 0, .ref 166, .int a3] [] σ Q) := w_icmpeq (t := 1788) dLa_law_1094 (by decide)
theorem bLa_law_1097 {E : mEn} {d : Nat} {σ : mSt} {Q : mPost} {a3 : Int32} : WP E d mLa_law 1097 [.ref 1000, .ref 0, .ref 166, .int a3] [] σ Q = Q (some (.int 0)) σ := (w_iconst (v := 0) dLa_law_1097 rfl).trans (w_zret dLa_law_1098 rfl (Or.inl rfl))
theorem bLa_law_1099 {E : mEn} {d : Nat} {σ : mSt} {Q : mPost} {a3 : Int32} : WP E (d + 1) mLa_law 1099 [.ref 1000, .ref 0, .ref 166, .int a3] [] σ Q = (if mOut (a3 + 1) E.1 = true then False else (if mOut (a3 + (nI 2)) E.1 = true then False else (if mOut (a3 + (nI 3)) E.1 = true then False else WP E d mPb_mean 0 [.ref 0, .int (E.2 (a3 + 1).toNatClampNeg), .int (E.2 (a3 + (nI 2)).toNatClampNeg), .int (E.2 (a3 + (nI 3)).toNatClampNeg), uu, uu, uu] [] σ (fun r σ' => WP E (d + 1) mLa_law 1118 [.ref 1000, .ref 0, .ref 166, .int a3] (r.toList ++ []) σ' Q)))) := (w_aload_n dLa_law_1099 rfl).trans ((w_aload_n dLa_law_1100 rfl).trans ((w_iload_n dLa_law_1101 rfl).trans ((w_iconst (v := 1) dLa_law_1102 rfl).trans ((w_iadd dLa_law_1103).trans ((w_iald0 dLa_law_1104).trans (ite_c ((w_aload_n dLa_law_1105 rfl).trans ((w_iload_n dLa_law_1106 rfl).trans ((w_iconst (v := (nI 2)) dLa_law_1107 rfl).trans ((w_iadd dLa_law_1108).trans ((w_iald0 dLa_law_1109).trans (ite_c ((w_aload_n dLa_law_1110 rfl).trans ((w_iload_n dLa_law_1111 rfl).trans ((w_iconst (v := (nI 3)) dLa_law_1112 rfl).trans ((w_iadd dLa_law_1113).trans ((w_iald0 dLa_law_1114).trans (ite_c (w_virt (vs := [.int (E.2 (a3 + 1).toNatClampNeg), .int (E.2 (a3 + (nI 2)).toNatClampNeg), .int (E.2 (a3 + (nI 3)).toNatClampNeg)]) (st' := []) (es := [.ref 0, .int (E.2 (a3 + 1).toNatClampNeg), .int (E.2 (a3 + (nI 2)).toNatClampNeg), .int (E.2 (a3 + (nI 3)).toNatClampNeg), uu, uu, uu]) dLa_law_1115 rz12_123 rfl sh_0 rfl rfl rfl (Nat.le_of_ble_eq_true rfl) (Nat.le_of_ble_eq_true rfl) rfl)))))))))))))))))))
theorem bLa_law_1118 {E : mEn} {d : Nat} {σ : mSt} {Q : mPost} {a3 : Int32} {s0 : Int32} : WP E (d + 1) mLa_law 1118 [.ref 1000, .ref 0, .ref 166, .int a3] [.int s0] σ Q = (if mOut (a3 + 1) E.1 = true then False else (if mOut (a3 + (nI 2)) E.1 = true then False else (if mOut (a3 + (nI 3)) E.1 = true then False else WP E d mMo_mean 0 [.ref 166, .int (E.2 (a3 + 1).toNatClampNeg), .int (E.2 (a3 + (nI 2)).toNatClampNeg), .int (E.2 (a3 + (nI 3)).toNatClampNeg), uu, uu, uu] [] σ (fun r σ' => WP E (d + 1) mLa_law 1137 [.ref 1000, .ref 0, .ref 166, .int a3] (r.toList ++ [.int s0]) σ' Q)))) := (w_aload_n dLa_law_1118 rfl).trans ((w_aload_n dLa_law_1119 rfl).trans ((w_iload_n dLa_law_1120 rfl).trans ((w_iconst (v := 1) dLa_law_1121 rfl).trans ((w_iadd dLa_law_1122).trans ((w_iald0 dLa_law_1123).trans (ite_c ((w_aload_n dLa_law_1124 rfl).trans ((w_iload_n dLa_law_1125 rfl).trans ((w_iconst (v := (nI 2)) dLa_law_1126 rfl).trans ((w_iadd dLa_law_1127).trans ((w_iald0 dLa_law_1128).trans (ite_c ((w_aload_n dLa_law_1129 rfl).trans ((w_iload_n dLa_law_1130 rfl).trans ((w_iconst (v := (nI 3)) dLa_law_1131 rfl).trans ((w_iadd dLa_law_1132).trans ((w_iald0 dLa_law_1133).trans (ite_c (w_virt (vs := [.int (E.2 (a3 + 1).toNatClampNeg), .int (E.2 (a3 + (nI 2)).toNatClampNeg), .int (E.2 (a3 + (nI 3)).toNatClampNeg)]) (st' := [.int s0]) (es := [.ref 166, .int (E.2 (a3 + 1).toNatClampNeg), .int (E.2 (a3 + (nI 2)).toNatClampNeg), .int (E.2 (a3 + (nI 3)).toNatClampNeg), uu, uu, uu]) dLa_law_1134 rz12_126 rfl sh_166 rfl rfl rfl (Nat.le_of_ble_eq_true rfl) (Nat.le_of_ble_eq_true rfl) rfl)))))))))))))))))))
theorem bLa_law_1137 {E : mEn} {d : Nat} {σ : mSt} {Q : mPost} {a3 : Int32} {s0 : Int32} {s1 : Int32} : WP E d mLa_law 1137 [.ref 1000, .ref 0, .ref 166, .int a3] [.int s0, .int s1] σ Q = (if s1 = s0 then WP E d mLa_law 1788 [.ref 1000, .ref 0, .ref 166, .int a3] [] σ Q else WP E d mLa_law 1140 [.ref 1000, .ref 0, .ref 166, .int a3] [] σ Q) := w_icmpeq (t := 1788) dLa_law_1137 (by decide)
theorem bLa_law_1140 {E : mEn} {d : Nat} {σ : mSt} {Q : mPost} {a3 : Int32} : WP E d mLa_law 1140 [.ref 1000, .ref 0, .ref 166, .int a3] [] σ Q = Q (some (.int 0)) σ := (w_iconst (v := 0) dLa_law_1140 rfl).trans (w_zret dLa_law_1141 rfl (Or.inl rfl))
theorem bLa_law_1142 {E : mEn} {d : Nat} {σ : mSt} {Q : mPost} {a3 : Int32} : WP E (d + 1) mLa_law 1142 [.ref 1000, .ref 0, .ref 166, .int a3] [] σ Q = (if mOut (a3 + 1) E.1 = true then False else WP E d mPb_net 0 [.ref 0, .int (E.2 (a3 + 1).toNatClampNeg)] [] σ (fun r σ' => WP E (d + 1) mLa_law 1151 [.ref 1000, .ref 0, .ref 166, .int a3] (r.toList ++ []) σ' Q)) := (w_aload_n dLa_law_1142 rfl).trans ((w_aload_n dLa_law_1143 rfl).trans ((w_iload_n dLa_law_1144 rfl).trans ((w_iconst (v := 1) dLa_law_1145 rfl).trans ((w_iadd dLa_law_1146).trans ((w_iald0 dLa_law_1147).trans (ite_c (w_virt (vs := [.int (E.2 (a3 + 1).toNatClampNeg)]) (st' := []) (es := [.ref 0, .int (E.2 (a3 + 1).toNatClampNeg)]) dLa_law_1148 rz12_127 rfl sh_0 rfl rfl rfl (Nat.le_of_ble_eq_true rfl) (Nat.le_of_ble_eq_true rfl) rfl)))))))
theorem bLa_law_1151 {E : mEn} {d : Nat} {σ : mSt} {Q : mPost} {a3 : Int32} {s0 : Int32} : WP E (d + 1) mLa_law 1151 [.ref 1000, .ref 0, .ref 166, .int a3] [.int s0] σ Q = (if mOut (a3 + 1) E.1 = true then False else WP E d mMo_net 0 [.ref 166, .int (E.2 (a3 + 1).toNatClampNeg)] [] σ (fun r σ' => WP E (d + 1) mLa_law 1160 [.ref 1000, .ref 0, .ref 166, .int a3] (r.toList ++ [.int s0]) σ' Q)) := (w_aload_n dLa_law_1151 rfl).trans ((w_aload_n dLa_law_1152 rfl).trans ((w_iload_n dLa_law_1153 rfl).trans ((w_iconst (v := 1) dLa_law_1154 rfl).trans ((w_iadd dLa_law_1155).trans ((w_iald0 dLa_law_1156).trans (ite_c (w_virt (vs := [.int (E.2 (a3 + 1).toNatClampNeg)]) (st' := [.int s0]) (es := [.ref 166, .int (E.2 (a3 + 1).toNatClampNeg)]) dLa_law_1157 rz12_130 rfl sh_166 rfl rfl rfl (Nat.le_of_ble_eq_true rfl) (Nat.le_of_ble_eq_true rfl) rfl)))))))
theorem bLa_law_1160 {E : mEn} {d : Nat} {σ : mSt} {Q : mPost} {a3 : Int32} {s0 : Int32} {s1 : Int32} : WP E d mLa_law 1160 [.ref 1000, .ref 0, .ref 166, .int a3] [.int s0, .int s1] σ Q = (if s1 = s0 then WP E d mLa_law 1788 [.ref 1000, .ref 0, .ref 166, .int a3] [] σ Q else WP E d mLa_law 1163 [.ref 1000, .ref 0, .ref 166, .int a3] [] σ Q) := w_icmpeq (t := 1788) dLa_law_1160 (by decide)
theorem bLa_law_1163 {E : mEn} {d : Nat} {σ : mSt} {Q : mPost} {a3 : Int32} : WP E d mLa_law 1163 [.ref 1000, .ref 0, .ref 166, .int a3] [] σ Q = Q (some (.int 0)) σ := (w_iconst (v := 0) dLa_law_1163 rfl).trans (w_zret dLa_law_1164 rfl (Or.inl rfl))
theorem bLa_law_1165 {E : mEn} {d : Nat} {σ : mSt} {Q : mPost} {a3 : Int32} : WP E (d + 1) mLa_law 1165 [.ref 1000, .ref 0, .ref 166, .int a3] [] σ Q = WP E d mPb_handOvers 0 [.ref 0] [] σ (fun r σ' => WP E (d + 1) mLa_law 1169 [.ref 1000, .ref 0, .ref 166, .int a3] (r.toList ++ []) σ' Q) := (w_aload_n dLa_law_1165 rfl).trans (w_virt (vs := []) (st' := []) (es := [.ref 0]) dLa_law_1166 rz12_131 rfl sh_0 rfl rfl rfl (Nat.le_of_ble_eq_true rfl) (Nat.le_of_ble_eq_true rfl) rfl)
theorem bLa_law_1169 {E : mEn} {d : Nat} {σ : mSt} {Q : mPost} {a3 : Int32} {s0 : Int32} : WP E (d + 1) mLa_law 1169 [.ref 1000, .ref 0, .ref 166, .int a3] [.int s0] σ Q = WP E d mMo_handOvers 0 [.ref 166, uu, uu, uu, uu, uu, uu] [] σ (fun r σ' => WP E (d + 1) mLa_law 1173 [.ref 1000, .ref 0, .ref 166, .int a3] (r.toList ++ [.int s0]) σ' Q) := (w_aload_n dLa_law_1169 rfl).trans (w_virt (vs := []) (st' := [.int s0]) (es := [.ref 166, uu, uu, uu, uu, uu, uu]) dLa_law_1170 rz12_134 rfl sh_166 rfl rfl rfl (Nat.le_of_ble_eq_true rfl) (Nat.le_of_ble_eq_true rfl) rfl)
theorem bLa_law_1173 {E : mEn} {d : Nat} {σ : mSt} {Q : mPost} {a3 : Int32} {s0 : Int32} {s1 : Int32} : WP E d mLa_law 1173 [.ref 1000, .ref 0, .ref 166, .int a3] [.int s0, .int s1] σ Q = (if s1 = s0 then WP E d mLa_law 1788 [.ref 1000, .ref 0, .ref 166, .int a3] [] σ Q else WP E d mLa_law 1176 [.ref 1000, .ref 0, .ref 166, .int a3] [] σ Q) := w_icmpeq (t := 1788) dLa_law_1173 (by decide)
theorem bLa_law_1176 {E : mEn} {d : Nat} {σ : mSt} {Q : mPost} {a3 : Int32} : WP E d mLa_law 1176 [.ref 1000, .ref 0, .ref 166, .int a3] [] σ Q = Q (some (.int 0)) σ := (w_iconst (v := 0) dLa_law_1176 rfl).trans (w_zret dLa_law_1177 rfl (Or.inl rfl))
theorem bLa_law_1178 {E : mEn} {d : Nat} {σ : mSt} {Q : mPost} {a3 : Int32} : WP E (d + 1) mLa_law 1178 [.ref 1000, .ref 0, .ref 166, .int a3] [] σ Q = WP E d mPb_ring 0 [.ref 0, uu] [] σ (fun r σ' => WP E (d + 1) mLa_law 1182 [.ref 1000, .ref 0, .ref 166, .int a3] (r.toList ++ []) σ' Q) := (w_aload_n dLa_law_1178 rfl).trans (w_virt (vs := []) (st' := []) (es := [.ref 0, uu]) dLa_law_1179 rz12_135 rfl sh_0 rfl rfl rfl (Nat.le_of_ble_eq_true rfl) (Nat.le_of_ble_eq_true rfl) rfl)
theorem bLa_law_1182 {E : mEn} {d : Nat} {σ : mSt} {Q : mPost} {a3 : Int32} {s0 : Int32} : WP E (d + 1) mLa_law 1182 [.ref 1000, .ref 0, .ref 166, .int a3] [.int s0] σ Q = WP E d mMo_ring 0 [.ref 166, uu, uu, uu] [] σ (fun r σ' => WP E (d + 1) mLa_law 1186 [.ref 1000, .ref 0, .ref 166, .int a3] (r.toList ++ [.int s0]) σ' Q) := (w_aload_n dLa_law_1182 rfl).trans (w_virt (vs := []) (st' := [.int s0]) (es := [.ref 166, uu, uu, uu]) dLa_law_1183 rz12_138 rfl sh_166 rfl rfl rfl (Nat.le_of_ble_eq_true rfl) (Nat.le_of_ble_eq_true rfl) rfl)
theorem bLa_law_1186 {E : mEn} {d : Nat} {σ : mSt} {Q : mPost} {a3 : Int32} {s0 : Int32} {s1 : Int32} : WP E d mLa_law 1186 [.ref 1000, .ref 0, .ref 166, .int a3] [.int s0, .int s1] σ Q = (if s1 = s0 then WP E d mLa_law 1788 [.ref 1000, .ref 0, .ref 166, .int a3] [] σ Q else WP E d mLa_law 1189 [.ref 1000, .ref 0, .ref 166, .int a3] [] σ Q) := w_icmpeq (t := 1788) dLa_law_1186 (by decide)
theorem bLa_law_1189 {E : mEn} {d : Nat} {σ : mSt} {Q : mPost} {a3 : Int32} : WP E d mLa_law 1189 [.ref 1000, .ref 0, .ref 166, .int a3] [] σ Q = Q (some (.int 0)) σ := (w_iconst (v := 0) dLa_law_1189 rfl).trans (w_zret dLa_law_1190 rfl (Or.inl rfl))
theorem bLa_law_1191 {E : mEn} {d : Nat} {σ : mSt} {Q : mPost} {a3 : Int32} : WP E (d + 1) mLa_law 1191 [.ref 1000, .ref 0, .ref 166, .int a3] [] σ Q = (if mOut (a3 + 1) E.1 = true then False else WP E d mPb_ringAt 0 [.ref 0, .int (E.2 (a3 + 1).toNatClampNeg)] [] σ (fun r σ' => WP E (d + 1) mLa_law 1200 [.ref 1000, .ref 0, .ref 166, .int a3] (r.toList ++ []) σ' Q)) := (w_aload_n dLa_law_1191 rfl).trans ((w_aload_n dLa_law_1192 rfl).trans ((w_iload_n dLa_law_1193 rfl).trans ((w_iconst (v := 1) dLa_law_1194 rfl).trans ((w_iadd dLa_law_1195).trans ((w_iald0 dLa_law_1196).trans (ite_c (w_virt (vs := [.int (E.2 (a3 + 1).toNatClampNeg)]) (st' := []) (es := [.ref 0, .int (E.2 (a3 + 1).toNatClampNeg)]) dLa_law_1197 rz12_139 rfl sh_0 rfl rfl rfl (Nat.le_of_ble_eq_true rfl) (Nat.le_of_ble_eq_true rfl) rfl)))))))
theorem bLa_law_1200 {E : mEn} {d : Nat} {σ : mSt} {Q : mPost} {a3 : Int32} {s0 : Int32} : WP E (d + 1) mLa_law 1200 [.ref 1000, .ref 0, .ref 166, .int a3] [.int s0] σ Q = (if mOut (a3 + 1) E.1 = true then False else WP E d mMo_ringAt 0 [.ref 166, .int (E.2 (a3 + 1).toNatClampNeg)] [] σ (fun r σ' => WP E (d + 1) mLa_law 1209 [.ref 1000, .ref 0, .ref 166, .int a3] (r.toList ++ [.int s0]) σ' Q)) := (w_aload_n dLa_law_1200 rfl).trans ((w_aload_n dLa_law_1201 rfl).trans ((w_iload_n dLa_law_1202 rfl).trans ((w_iconst (v := 1) dLa_law_1203 rfl).trans ((w_iadd dLa_law_1204).trans ((w_iald0 dLa_law_1205).trans (ite_c (w_virt (vs := [.int (E.2 (a3 + 1).toNatClampNeg)]) (st' := [.int s0]) (es := [.ref 166, .int (E.2 (a3 + 1).toNatClampNeg)]) dLa_law_1206 rz12_142 rfl sh_166 rfl rfl rfl (Nat.le_of_ble_eq_true rfl) (Nat.le_of_ble_eq_true rfl) rfl)))))))
theorem bLa_law_1209 {E : mEn} {d : Nat} {σ : mSt} {Q : mPost} {a3 : Int32} {s0 : Int32} {s1 : Int32} : WP E d mLa_law 1209 [.ref 1000, .ref 0, .ref 166, .int a3] [.int s0, .int s1] σ Q = (if s1 = s0 then WP E d mLa_law 1788 [.ref 1000, .ref 0, .ref 166, .int a3] [] σ Q else WP E d mLa_law 1212 [.ref 1000, .ref 0, .ref 166, .int a3] [] σ Q) := w_icmpeq (t := 1788) dLa_law_1209 (by decide)
theorem bLa_law_1212 {E : mEn} {d : Nat} {σ : mSt} {Q : mPost} {a3 : Int32} : WP E d mLa_law 1212 [.ref 1000, .ref 0, .ref 166, .int a3] [] σ Q = Q (some (.int 0)) σ := (w_iconst (v := 0) dLa_law_1212 rfl).trans (w_zret dLa_law_1213 rfl (Or.inl rfl))
theorem bLa_law_1214 {E : mEn} {d : Nat} {σ : mSt} {Q : mPost} {a3 : Int32} : WP E (d + 1) mLa_law 1214 [.ref 1000, .ref 0, .ref 166, .int a3] [] σ Q = (if mOut (a3 + 1) E.1 = true then False else WP E d mPb_owing 0 [.ref 0, .int (E.2 (a3 + 1).toNatClampNeg), uu, uu] [] σ (fun r σ' => WP E (d + 1) mLa_law 1223 [.ref 1000, .ref 0, .ref 166, .int a3] (r.toList ++ []) σ' Q)) := (w_aload_n dLa_law_1214 rfl).trans ((w_aload_n dLa_law_1215 rfl).trans ((w_iload_n dLa_law_1216 rfl).trans ((w_iconst (v := 1) dLa_law_1217 rfl).trans ((w_iadd dLa_law_1218).trans ((w_iald0 dLa_law_1219).trans (ite_c (w_virt (vs := [.int (E.2 (a3 + 1).toNatClampNeg)]) (st' := []) (es := [.ref 0, .int (E.2 (a3 + 1).toNatClampNeg), uu, uu]) dLa_law_1220 rz12_143 rfl sh_0 rfl rfl rfl (Nat.le_of_ble_eq_true rfl) (Nat.le_of_ble_eq_true rfl) rfl)))))))
theorem bLa_law_1223 {E : mEn} {d : Nat} {σ : mSt} {Q : mPost} {a3 : Int32} {s0 : Int32} : WP E (d + 1) mLa_law 1223 [.ref 1000, .ref 0, .ref 166, .int a3] [.int s0] σ Q = (if mOut (a3 + 1) E.1 = true then False else WP E d mMo_owing 0 [.ref 166, .int (E.2 (a3 + 1).toNatClampNeg), uu, uu] [] σ (fun r σ' => WP E (d + 1) mLa_law 1232 [.ref 1000, .ref 0, .ref 166, .int a3] (r.toList ++ [.int s0]) σ' Q)) := (w_aload_n dLa_law_1223 rfl).trans ((w_aload_n dLa_law_1224 rfl).trans ((w_iload_n dLa_law_1225 rfl).trans ((w_iconst (v := 1) dLa_law_1226 rfl).trans ((w_iadd dLa_law_1227).trans ((w_iald0 dLa_law_1228).trans (ite_c (w_virt (vs := [.int (E.2 (a3 + 1).toNatClampNeg)]) (st' := [.int s0]) (es := [.ref 166, .int (E.2 (a3 + 1).toNatClampNeg), uu, uu]) dLa_law_1229 rz12_146 rfl sh_166 rfl rfl rfl (Nat.le_of_ble_eq_true rfl) (Nat.le_of_ble_eq_true rfl) rfl)))))))
theorem bLa_law_1232 {E : mEn} {d : Nat} {σ : mSt} {Q : mPost} {a3 : Int32} {s0 : Int32} {s1 : Int32} : WP E d mLa_law 1232 [.ref 1000, .ref 0, .ref 166, .int a3] [.int s0, .int s1] σ Q = (if s1 = s0 then WP E d mLa_law 1788 [.ref 1000, .ref 0, .ref 166, .int a3] [] σ Q else WP E d mLa_law 1235 [.ref 1000, .ref 0, .ref 166, .int a3] [] σ Q) := w_icmpeq (t := 1788) dLa_law_1232 (by decide)
theorem bLa_law_1235 {E : mEn} {d : Nat} {σ : mSt} {Q : mPost} {a3 : Int32} : WP E d mLa_law 1235 [.ref 1000, .ref 0, .ref 166, .int a3] [] σ Q = Q (some (.int 0)) σ := (w_iconst (v := 0) dLa_law_1235 rfl).trans (w_zret dLa_law_1236 rfl (Or.inl rfl))
theorem bLa_law_1237 {E : mEn} {d : Nat} {σ : mSt} {Q : mPost} {a3 : Int32} : WP E (d + 1) mLa_law 1237 [.ref 1000, .ref 0, .ref 166, .int a3] [] σ Q = (if mOut (a3 + 1) E.1 = true then False else (if mOut (a3 + (nI 2)) E.1 = true then False else (if mOut (a3 + (nI 3)) E.1 = true then False else WP E d mPb_saved 0 [.ref 0, .int (E.2 (a3 + 1).toNatClampNeg), .int (E.2 (a3 + (nI 2)).toNatClampNeg), .int (E.2 (a3 + (nI 3)).toNatClampNeg), uu] [] σ (fun r σ' => WP E (d + 1) mLa_law 1256 [.ref 1000, .ref 0, .ref 166, .int a3] (r.toList ++ []) σ' Q)))) := (w_aload_n dLa_law_1237 rfl).trans ((w_aload_n dLa_law_1238 rfl).trans ((w_iload_n dLa_law_1239 rfl).trans ((w_iconst (v := 1) dLa_law_1240 rfl).trans ((w_iadd dLa_law_1241).trans ((w_iald0 dLa_law_1242).trans (ite_c ((w_aload_n dLa_law_1243 rfl).trans ((w_iload_n dLa_law_1244 rfl).trans ((w_iconst (v := (nI 2)) dLa_law_1245 rfl).trans ((w_iadd dLa_law_1246).trans ((w_iald0 dLa_law_1247).trans (ite_c ((w_aload_n dLa_law_1248 rfl).trans ((w_iload_n dLa_law_1249 rfl).trans ((w_iconst (v := (nI 3)) dLa_law_1250 rfl).trans ((w_iadd dLa_law_1251).trans ((w_iald0 dLa_law_1252).trans (ite_c (w_virt (vs := [.int (E.2 (a3 + 1).toNatClampNeg), .int (E.2 (a3 + (nI 2)).toNatClampNeg), .int (E.2 (a3 + (nI 3)).toNatClampNeg)]) (st' := []) (es := [.ref 0, .int (E.2 (a3 + 1).toNatClampNeg), .int (E.2 (a3 + (nI 2)).toNatClampNeg), .int (E.2 (a3 + (nI 3)).toNatClampNeg), uu]) dLa_law_1253 rz12_147 rfl sh_0 rfl rfl rfl (Nat.le_of_ble_eq_true rfl) (Nat.le_of_ble_eq_true rfl) rfl)))))))))))))))))))
theorem bLa_law_1256 {E : mEn} {d : Nat} {σ : mSt} {Q : mPost} {a3 : Int32} {s0 : Int32} : WP E (d + 1) mLa_law 1256 [.ref 1000, .ref 0, .ref 166, .int a3] [.int s0] σ Q = (if mOut (a3 + 1) E.1 = true then False else (if mOut (a3 + (nI 2)) E.1 = true then False else (if mOut (a3 + (nI 3)) E.1 = true then False else WP E d mMo_saved 0 [.ref 166, .int (E.2 (a3 + 1).toNatClampNeg), .int (E.2 (a3 + (nI 2)).toNatClampNeg), .int (E.2 (a3 + (nI 3)).toNatClampNeg), uu, uu, uu, uu, uu, uu, uu] [] σ (fun r σ' => WP E (d + 1) mLa_law 1275 [.ref 1000, .ref 0, .ref 166, .int a3] (r.toList ++ [.int s0]) σ' Q)))) := (w_aload_n dLa_law_1256 rfl).trans ((w_aload_n dLa_law_1257 rfl).trans ((w_iload_n dLa_law_1258 rfl).trans ((w_iconst (v := 1) dLa_law_1259 rfl).trans ((w_iadd dLa_law_1260).trans ((w_iald0 dLa_law_1261).trans (ite_c ((w_aload_n dLa_law_1262 rfl).trans ((w_iload_n dLa_law_1263 rfl).trans ((w_iconst (v := (nI 2)) dLa_law_1264 rfl).trans ((w_iadd dLa_law_1265).trans ((w_iald0 dLa_law_1266).trans (ite_c ((w_aload_n dLa_law_1267 rfl).trans ((w_iload_n dLa_law_1268 rfl).trans ((w_iconst (v := (nI 3)) dLa_law_1269 rfl).trans ((w_iadd dLa_law_1270).trans ((w_iald0 dLa_law_1271).trans (ite_c (w_virt (vs := [.int (E.2 (a3 + 1).toNatClampNeg), .int (E.2 (a3 + (nI 2)).toNatClampNeg), .int (E.2 (a3 + (nI 3)).toNatClampNeg)]) (st' := [.int s0]) (es := [.ref 166, .int (E.2 (a3 + 1).toNatClampNeg), .int (E.2 (a3 + (nI 2)).toNatClampNeg), .int (E.2 (a3 + (nI 3)).toNatClampNeg), uu, uu, uu, uu, uu, uu, uu]) dLa_law_1272 rz12_150 rfl sh_166 rfl rfl rfl (Nat.le_of_ble_eq_true rfl) (Nat.le_of_ble_eq_true rfl) rfl)))))))))))))))))))
theorem bLa_law_1275 {E : mEn} {d : Nat} {σ : mSt} {Q : mPost} {a3 : Int32} {s0 : Int32} {s1 : Int32} : WP E d mLa_law 1275 [.ref 1000, .ref 0, .ref 166, .int a3] [.int s0, .int s1] σ Q = (if s1 = s0 then WP E d mLa_law 1788 [.ref 1000, .ref 0, .ref 166, .int a3] [] σ Q else WP E d mLa_law 1278 [.ref 1000, .ref 0, .ref 166, .int a3] [] σ Q) := w_icmpeq (t := 1788) dLa_law_1275 (by decide)
theorem bLa_law_1278 {E : mEn} {d : Nat} {σ : mSt} {Q : mPost} {a3 : Int32} : WP E d mLa_law 1278 [.ref 1000, .ref 0, .ref 166, .int a3] [] σ Q = Q (some (.int 0)) σ := (w_iconst (v := 0) dLa_law_1278 rfl).trans (w_zret dLa_law_1279 rfl (Or.inl rfl))
theorem bLa_law_1280 {E : mEn} {d : Nat} {σ : mSt} {Q : mPost} {a3 : Int32} : WP E (d + 1) mLa_law 1280 [.ref 1000, .ref 0, .ref 166, .int a3] [] σ Q = WP E d mPb_faces 0 [.ref 0, uu, uu, uu] [] σ (fun r σ' => WP E (d + 1) mLa_law 1284 [.ref 1000, .ref 0, .ref 166, .int a3] (r.toList ++ []) σ' Q) := (w_aload_n dLa_law_1280 rfl).trans (w_virt (vs := []) (st' := []) (es := [.ref 0, uu, uu, uu]) dLa_law_1281 rz12_151 rfl sh_0 rfl rfl rfl (Nat.le_of_ble_eq_true rfl) (Nat.le_of_ble_eq_true rfl) rfl)
theorem bLa_law_1284 {E : mEn} {d : Nat} {σ : mSt} {Q : mPost} {a3 : Int32} {s0 : Int32} : WP E (d + 1) mLa_law 1284 [.ref 1000, .ref 0, .ref 166, .int a3] [.int s0] σ Q = WP E d mMo_faces 0 [.ref 166, uu, uu] [] σ (fun r σ' => WP E (d + 1) mLa_law 1288 [.ref 1000, .ref 0, .ref 166, .int a3] (r.toList ++ [.int s0]) σ' Q) := (w_aload_n dLa_law_1284 rfl).trans (w_virt (vs := []) (st' := [.int s0]) (es := [.ref 166, uu, uu]) dLa_law_1285 rz12_154 rfl sh_166 rfl rfl rfl (Nat.le_of_ble_eq_true rfl) (Nat.le_of_ble_eq_true rfl) rfl)
theorem bLa_law_1288 {E : mEn} {d : Nat} {σ : mSt} {Q : mPost} {a3 : Int32} {s0 : Int32} {s1 : Int32} : WP E d mLa_law 1288 [.ref 1000, .ref 0, .ref 166, .int a3] [.int s0, .int s1] σ Q = (if s1 = s0 then WP E d mLa_law 1788 [.ref 1000, .ref 0, .ref 166, .int a3] [] σ Q else WP E d mLa_law 1291 [.ref 1000, .ref 0, .ref 166, .int a3] [] σ Q) := w_icmpeq (t := 1788) dLa_law_1288 (by decide)
theorem bLa_law_1291 {E : mEn} {d : Nat} {σ : mSt} {Q : mPost} {a3 : Int32} : WP E d mLa_law 1291 [.ref 1000, .ref 0, .ref 166, .int a3] [] σ Q = Q (some (.int 0)) σ := (w_iconst (v := 0) dLa_law_1291 rfl).trans (w_zret dLa_law_1292 rfl (Or.inl rfl))
theorem bLa_law_1293 {E : mEn} {d : Nat} {σ : mSt} {Q : mPost} {a3 : Int32} : WP E (d + 1) mLa_law 1293 [.ref 1000, .ref 0, .ref 166, .int a3] [] σ Q = (if mOut (a3 + 1) E.1 = true then False else (if mOut (a3 + (nI 2)) E.1 = true then False else (if mOut (a3 + (nI 3)) E.1 = true then False else WP E d mPb_keeps 0 [.ref 0, .int (E.2 (a3 + 1).toNatClampNeg), .int (E.2 (a3 + (nI 2)).toNatClampNeg), .int (E.2 (a3 + (nI 3)).toNatClampNeg), uu] [] σ (fun r σ' => WP E (d + 1) mLa_law 1312 [.ref 1000, .ref 0, .ref 166, .int a3] (r.toList ++ []) σ' Q)))) := (w_aload_n dLa_law_1293 rfl).trans ((w_aload_n dLa_law_1294 rfl).trans ((w_iload_n dLa_law_1295 rfl).trans ((w_iconst (v := 1) dLa_law_1296 rfl).trans ((w_iadd dLa_law_1297).trans ((w_iald0 dLa_law_1298).trans (ite_c ((w_aload_n dLa_law_1299 rfl).trans ((w_iload_n dLa_law_1300 rfl).trans ((w_iconst (v := (nI 2)) dLa_law_1301 rfl).trans ((w_iadd dLa_law_1302).trans ((w_iald0 dLa_law_1303).trans (ite_c ((w_aload_n dLa_law_1304 rfl).trans ((w_iload_n dLa_law_1305 rfl).trans ((w_iconst (v := (nI 3)) dLa_law_1306 rfl).trans ((w_iadd dLa_law_1307).trans ((w_iald0 dLa_law_1308).trans (ite_c (w_virt (vs := [.int (E.2 (a3 + 1).toNatClampNeg), .int (E.2 (a3 + (nI 2)).toNatClampNeg), .int (E.2 (a3 + (nI 3)).toNatClampNeg)]) (st' := []) (es := [.ref 0, .int (E.2 (a3 + 1).toNatClampNeg), .int (E.2 (a3 + (nI 2)).toNatClampNeg), .int (E.2 (a3 + (nI 3)).toNatClampNeg), uu]) dLa_law_1309 rz12_155 rfl sh_0 rfl rfl rfl (Nat.le_of_ble_eq_true rfl) (Nat.le_of_ble_eq_true rfl) rfl)))))))))))))))))))
theorem bLa_law_1312 {E : mEn} {d : Nat} {σ : mSt} {Q : mPost} {a3 : Int32} {s0 : Int32} : WP E (d + 1) mLa_law 1312 [.ref 1000, .ref 0, .ref 166, .int a3] [.int s0] σ Q = (if mOut (a3 + 1) E.1 = true then False else (if mOut (a3 + (nI 2)) E.1 = true then False else (if mOut (a3 + (nI 3)) E.1 = true then False else WP E d mMo_keeps 0 [.ref 166, .int (E.2 (a3 + 1).toNatClampNeg), .int (E.2 (a3 + (nI 2)).toNatClampNeg), .int (E.2 (a3 + (nI 3)).toNatClampNeg), uu, uu, uu, uu] [] σ (fun r σ' => WP E (d + 1) mLa_law 1331 [.ref 1000, .ref 0, .ref 166, .int a3] (r.toList ++ [.int s0]) σ' Q)))) := (w_aload_n dLa_law_1312 rfl).trans ((w_aload_n dLa_law_1313 rfl).trans ((w_iload_n dLa_law_1314 rfl).trans ((w_iconst (v := 1) dLa_law_1315 rfl).trans ((w_iadd dLa_law_1316).trans ((w_iald0 dLa_law_1317).trans (ite_c ((w_aload_n dLa_law_1318 rfl).trans ((w_iload_n dLa_law_1319 rfl).trans ((w_iconst (v := (nI 2)) dLa_law_1320 rfl).trans ((w_iadd dLa_law_1321).trans ((w_iald0 dLa_law_1322).trans (ite_c ((w_aload_n dLa_law_1323 rfl).trans ((w_iload_n dLa_law_1324 rfl).trans ((w_iconst (v := (nI 3)) dLa_law_1325 rfl).trans ((w_iadd dLa_law_1326).trans ((w_iald0 dLa_law_1327).trans (ite_c (w_virt (vs := [.int (E.2 (a3 + 1).toNatClampNeg), .int (E.2 (a3 + (nI 2)).toNatClampNeg), .int (E.2 (a3 + (nI 3)).toNatClampNeg)]) (st' := [.int s0]) (es := [.ref 166, .int (E.2 (a3 + 1).toNatClampNeg), .int (E.2 (a3 + (nI 2)).toNatClampNeg), .int (E.2 (a3 + (nI 3)).toNatClampNeg), uu, uu, uu, uu]) dLa_law_1328 rz12_158 rfl sh_166 rfl rfl rfl (Nat.le_of_ble_eq_true rfl) (Nat.le_of_ble_eq_true rfl) rfl)))))))))))))))))))
theorem bLa_law_1331 {E : mEn} {d : Nat} {σ : mSt} {Q : mPost} {a3 : Int32} {s0 : Int32} {s1 : Int32} : WP E d mLa_law 1331 [.ref 1000, .ref 0, .ref 166, .int a3] [.int s0, .int s1] σ Q = (if s1 = s0 then WP E d mLa_law 1788 [.ref 1000, .ref 0, .ref 166, .int a3] [] σ Q else WP E d mLa_law 1334 [.ref 1000, .ref 0, .ref 166, .int a3] [] σ Q) := w_icmpeq (t := 1788) dLa_law_1331 (by decide)
theorem bLa_law_1334 {E : mEn} {d : Nat} {σ : mSt} {Q : mPost} {a3 : Int32} : WP E d mLa_law 1334 [.ref 1000, .ref 0, .ref 166, .int a3] [] σ Q = Q (some (.int 0)) σ := (w_iconst (v := 0) dLa_law_1334 rfl).trans (w_zret dLa_law_1335 rfl (Or.inl rfl))
theorem bLa_law_1336 {E : mEn} {d : Nat} {σ : mSt} {Q : mPost} {a3 : Int32} : WP E (d + 1) mLa_law 1336 [.ref 1000, .ref 0, .ref 166, .int a3] [] σ Q = WP E d mPb_burst 0 [.ref 0, uu, uu, uu] [] σ (fun r σ' => WP E (d + 1) mLa_law 1340 [.ref 1000, .ref 0, .ref 166, .int a3] (r.toList ++ []) σ' Q) := (w_aload_n dLa_law_1336 rfl).trans (w_virt (vs := []) (st' := []) (es := [.ref 0, uu, uu, uu]) dLa_law_1337 rz12_159 rfl sh_0 rfl rfl rfl (Nat.le_of_ble_eq_true rfl) (Nat.le_of_ble_eq_true rfl) rfl)
theorem bLa_law_1340 {E : mEn} {d : Nat} {σ : mSt} {Q : mPost} {a3 : Int32} {s0 : Int32} : WP E (d + 1) mLa_law 1340 [.ref 1000, .ref 0, .ref 166, .int a3] [.int s0] σ Q = WP E d mMo_burst 0 [.ref 166, uu, uu] [] σ (fun r σ' => WP E (d + 1) mLa_law 1344 [.ref 1000, .ref 0, .ref 166, .int a3] (r.toList ++ [.int s0]) σ' Q) := (w_aload_n dLa_law_1340 rfl).trans (w_virt (vs := []) (st' := [.int s0]) (es := [.ref 166, uu, uu]) dLa_law_1341 rz12_162 rfl sh_166 rfl rfl rfl (Nat.le_of_ble_eq_true rfl) (Nat.le_of_ble_eq_true rfl) rfl)
theorem bLa_law_1344 {E : mEn} {d : Nat} {σ : mSt} {Q : mPost} {a3 : Int32} {s0 : Int32} {s1 : Int32} : WP E d mLa_law 1344 [.ref 1000, .ref 0, .ref 166, .int a3] [.int s0, .int s1] σ Q = (if s1 = s0 then WP E d mLa_law 1788 [.ref 1000, .ref 0, .ref 166, .int a3] [] σ Q else WP E d mLa_law 1347 [.ref 1000, .ref 0, .ref 166, .int a3] [] σ Q) := w_icmpeq (t := 1788) dLa_law_1344 (by decide)
theorem bLa_law_1347 {E : mEn} {d : Nat} {σ : mSt} {Q : mPost} {a3 : Int32} : WP E d mLa_law 1347 [.ref 1000, .ref 0, .ref 166, .int a3] [] σ Q = Q (some (.int 0)) σ := (w_iconst (v := 0) dLa_law_1347 rfl).trans (w_zret dLa_law_1348 rfl (Or.inl rfl))
theorem bLa_law_1349 {E : mEn} {d : Nat} {σ : mSt} {Q : mPost} {a3 : Int32} : WP E (d + 1) mLa_law 1349 [.ref 1000, .ref 0, .ref 166, .int a3] [] σ Q = (if mOut (a3 + 1) E.1 = true then False else (if mOut (a3 + (nI 2)) E.1 = true then False else (if mOut (a3 + (nI 3)) E.1 = true then False else (if mOut (a3 + (nI 4)) E.1 = true then False else (if mOut (a3 + (nI 5)) E.1 = true then False else WP E d mPb_cuts 0 [.ref 0, .int (E.2 (a3 + 1).toNatClampNeg), .int (E.2 (a3 + (nI 2)).toNatClampNeg), .int (E.2 (a3 + (nI 3)).toNatClampNeg), .int (E.2 (a3 + (nI 4)).toNatClampNeg), .int (E.2 (a3 + (nI 5)).toNatClampNeg), uu] [] σ (fun r σ' => WP E (d + 1) mLa_law 1378 [.ref 1000, .ref 0, .ref 166, .int a3] (r.toList ++ []) σ' Q)))))) := (w_aload_n dLa_law_1349 rfl).trans ((w_aload_n dLa_law_1350 rfl).trans ((w_iload_n dLa_law_1351 rfl).trans ((w_iconst (v := 1) dLa_law_1352 rfl).trans ((w_iadd dLa_law_1353).trans ((w_iald0 dLa_law_1354).trans (ite_c ((w_aload_n dLa_law_1355 rfl).trans ((w_iload_n dLa_law_1356 rfl).trans ((w_iconst (v := (nI 2)) dLa_law_1357 rfl).trans ((w_iadd dLa_law_1358).trans ((w_iald0 dLa_law_1359).trans (ite_c ((w_aload_n dLa_law_1360 rfl).trans ((w_iload_n dLa_law_1361 rfl).trans ((w_iconst (v := (nI 3)) dLa_law_1362 rfl).trans ((w_iadd dLa_law_1363).trans ((w_iald0 dLa_law_1364).trans (ite_c ((w_aload_n dLa_law_1365 rfl).trans ((w_iload_n dLa_law_1366 rfl).trans ((w_iconst (v := (nI 4)) dLa_law_1367 rfl).trans ((w_iadd dLa_law_1368).trans ((w_iald0 dLa_law_1369).trans (ite_c ((w_aload_n dLa_law_1370 rfl).trans ((w_iload_n dLa_law_1371 rfl).trans ((w_iconst (v := (nI 5)) dLa_law_1372 rfl).trans ((w_iadd dLa_law_1373).trans ((w_iald0 dLa_law_1374).trans (ite_c (w_virt (vs := [.int (E.2 (a3 + 1).toNatClampNeg), .int (E.2 (a3 + (nI 2)).toNatClampNeg), .int (E.2 (a3 + (nI 3)).toNatClampNeg), .int (E.2 (a3 + (nI 4)).toNatClampNeg), .int (E.2 (a3 + (nI 5)).toNatClampNeg)]) (st' := []) (es := [.ref 0, .int (E.2 (a3 + 1).toNatClampNeg), .int (E.2 (a3 + (nI 2)).toNatClampNeg), .int (E.2 (a3 + (nI 3)).toNatClampNeg), .int (E.2 (a3 + (nI 4)).toNatClampNeg), .int (E.2 (a3 + (nI 5)).toNatClampNeg), uu]) dLa_law_1375 rz12_163 rfl sh_0 rfl rfl rfl (Nat.le_of_ble_eq_true rfl) (Nat.le_of_ble_eq_true rfl) rfl)))))))))))))))))))))))))))))))
theorem bLa_law_1378 {E : mEn} {d : Nat} {σ : mSt} {Q : mPost} {a3 : Int32} {s0 : Int32} : WP E (d + 1) mLa_law 1378 [.ref 1000, .ref 0, .ref 166, .int a3] [.int s0] σ Q = (if mOut (a3 + 1) E.1 = true then False else (if mOut (a3 + (nI 2)) E.1 = true then False else (if mOut (a3 + (nI 3)) E.1 = true then False else (if mOut (a3 + (nI 4)) E.1 = true then False else (if mOut (a3 + (nI 5)) E.1 = true then False else WP E d mMo_cuts 0 [.ref 166, .int (E.2 (a3 + 1).toNatClampNeg), .int (E.2 (a3 + (nI 2)).toNatClampNeg), .int (E.2 (a3 + (nI 3)).toNatClampNeg), .int (E.2 (a3 + (nI 4)).toNatClampNeg), .int (E.2 (a3 + (nI 5)).toNatClampNeg), uu, uu, uu, uu] [] σ (fun r σ' => WP E (d + 1) mLa_law 1407 [.ref 1000, .ref 0, .ref 166, .int a3] (r.toList ++ [.int s0]) σ' Q)))))) := (w_aload_n dLa_law_1378 rfl).trans ((w_aload_n dLa_law_1379 rfl).trans ((w_iload_n dLa_law_1380 rfl).trans ((w_iconst (v := 1) dLa_law_1381 rfl).trans ((w_iadd dLa_law_1382).trans ((w_iald0 dLa_law_1383).trans (ite_c ((w_aload_n dLa_law_1384 rfl).trans ((w_iload_n dLa_law_1385 rfl).trans ((w_iconst (v := (nI 2)) dLa_law_1386 rfl).trans ((w_iadd dLa_law_1387).trans ((w_iald0 dLa_law_1388).trans (ite_c ((w_aload_n dLa_law_1389 rfl).trans ((w_iload_n dLa_law_1390 rfl).trans ((w_iconst (v := (nI 3)) dLa_law_1391 rfl).trans ((w_iadd dLa_law_1392).trans ((w_iald0 dLa_law_1393).trans (ite_c ((w_aload_n dLa_law_1394 rfl).trans ((w_iload_n dLa_law_1395 rfl).trans ((w_iconst (v := (nI 4)) dLa_law_1396 rfl).trans ((w_iadd dLa_law_1397).trans ((w_iald0 dLa_law_1398).trans (ite_c ((w_aload_n dLa_law_1399 rfl).trans ((w_iload_n dLa_law_1400 rfl).trans ((w_iconst (v := (nI 5)) dLa_law_1401 rfl).trans ((w_iadd dLa_law_1402).trans ((w_iald0 dLa_law_1403).trans (ite_c (w_virt (vs := [.int (E.2 (a3 + 1).toNatClampNeg), .int (E.2 (a3 + (nI 2)).toNatClampNeg), .int (E.2 (a3 + (nI 3)).toNatClampNeg), .int (E.2 (a3 + (nI 4)).toNatClampNeg), .int (E.2 (a3 + (nI 5)).toNatClampNeg)]) (st' := [.int s0]) (es := [.ref 166, .int (E.2 (a3 + 1).toNatClampNeg), .int (E.2 (a3 + (nI 2)).toNatClampNeg), .int (E.2 (a3 + (nI 3)).toNatClampNeg), .int (E.2 (a3 + (nI 4)).toNatClampNeg), .int (E.2 (a3 + (nI 5)).toNatClampNeg), uu, uu, uu, uu]) dLa_law_1404 rz12_166 rfl sh_166 rfl rfl rfl (Nat.le_of_ble_eq_true rfl) (Nat.le_of_ble_eq_true rfl) rfl)))))))))))))))))))))))))))))))
theorem bLa_law_1407 {E : mEn} {d : Nat} {σ : mSt} {Q : mPost} {a3 : Int32} {s0 : Int32} {s1 : Int32} : WP E d mLa_law 1407 [.ref 1000, .ref 0, .ref 166, .int a3] [.int s0, .int s1] σ Q = (if s1 = s0 then WP E d mLa_law 1788 [.ref 1000, .ref 0, .ref 166, .int a3] [] σ Q else WP E d mLa_law 1410 [.ref 1000, .ref 0, .ref 166, .int a3] [] σ Q) := w_icmpeq (t := 1788) dLa_law_1407 (by decide)
theorem bLa_law_1410 {E : mEn} {d : Nat} {σ : mSt} {Q : mPost} {a3 : Int32} : WP E d mLa_law 1410 [.ref 1000, .ref 0, .ref 166, .int a3] [] σ Q = Q (some (.int 0)) σ := (w_iconst (v := 0) dLa_law_1410 rfl).trans (w_zret dLa_law_1411 rfl (Or.inl rfl))
theorem bLa_law_1412 {E : mEn} {d : Nat} {σ : mSt} {Q : mPost} {a3 : Int32} : WP E (d + 1) mLa_law 1412 [.ref 1000, .ref 0, .ref 166, .int a3] [] σ Q = (if mOut (a3 + 1) E.1 = true then False else (if mOut (a3 + (nI 2)) E.1 = true then False else (if mOut (a3 + (nI 3)) E.1 = true then False else WP E d mPb_auction 0 [.ref 0, .int (E.2 (a3 + 1).toNatClampNeg), .int (E.2 (a3 + (nI 2)).toNatClampNeg), .int (E.2 (a3 + (nI 3)).toNatClampNeg), uu, uu] [] σ (fun r σ' => WP E (d + 1) mLa_law 1431 [.ref 1000, .ref 0, .ref 166, .int a3] (r.toList ++ []) σ' Q)))) := (w_aload_n dLa_law_1412 rfl).trans ((w_aload_n dLa_law_1413 rfl).trans ((w_iload_n dLa_law_1414 rfl).trans ((w_iconst (v := 1) dLa_law_1415 rfl).trans ((w_iadd dLa_law_1416).trans ((w_iald0 dLa_law_1417).trans (ite_c ((w_aload_n dLa_law_1418 rfl).trans ((w_iload_n dLa_law_1419 rfl).trans ((w_iconst (v := (nI 2)) dLa_law_1420 rfl).trans ((w_iadd dLa_law_1421).trans ((w_iald0 dLa_law_1422).trans (ite_c ((w_aload_n dLa_law_1423 rfl).trans ((w_iload_n dLa_law_1424 rfl).trans ((w_iconst (v := (nI 3)) dLa_law_1425 rfl).trans ((w_iadd dLa_law_1426).trans ((w_iald0 dLa_law_1427).trans (ite_c (w_virt (vs := [.int (E.2 (a3 + 1).toNatClampNeg), .int (E.2 (a3 + (nI 2)).toNatClampNeg), .int (E.2 (a3 + (nI 3)).toNatClampNeg)]) (st' := []) (es := [.ref 0, .int (E.2 (a3 + 1).toNatClampNeg), .int (E.2 (a3 + (nI 2)).toNatClampNeg), .int (E.2 (a3 + (nI 3)).toNatClampNeg), uu, uu]) dLa_law_1428 rz12_167 rfl sh_0 rfl rfl rfl (Nat.le_of_ble_eq_true rfl) (Nat.le_of_ble_eq_true rfl) rfl)))))))))))))))))))
theorem bLa_law_1431 {E : mEn} {d : Nat} {σ : mSt} {Q : mPost} {a3 : Int32} {s0 : Int32} : WP E (d + 1) mLa_law 1431 [.ref 1000, .ref 0, .ref 166, .int a3] [.int s0] σ Q = (if mOut (a3 + 1) E.1 = true then False else (if mOut (a3 + (nI 2)) E.1 = true then False else (if mOut (a3 + (nI 3)) E.1 = true then False else WP E d mMo_auction 0 [.ref 166, .int (E.2 (a3 + 1).toNatClampNeg), .int (E.2 (a3 + (nI 2)).toNatClampNeg), .int (E.2 (a3 + (nI 3)).toNatClampNeg), uu, uu, uu, uu] [] σ (fun r σ' => WP E (d + 1) mLa_law 1450 [.ref 1000, .ref 0, .ref 166, .int a3] (r.toList ++ [.int s0]) σ' Q)))) := (w_aload_n dLa_law_1431 rfl).trans ((w_aload_n dLa_law_1432 rfl).trans ((w_iload_n dLa_law_1433 rfl).trans ((w_iconst (v := 1) dLa_law_1434 rfl).trans ((w_iadd dLa_law_1435).trans ((w_iald0 dLa_law_1436).trans (ite_c ((w_aload_n dLa_law_1437 rfl).trans ((w_iload_n dLa_law_1438 rfl).trans ((w_iconst (v := (nI 2)) dLa_law_1439 rfl).trans ((w_iadd dLa_law_1440).trans ((w_iald0 dLa_law_1441).trans (ite_c ((w_aload_n dLa_law_1442 rfl).trans ((w_iload_n dLa_law_1443 rfl).trans ((w_iconst (v := (nI 3)) dLa_law_1444 rfl).trans ((w_iadd dLa_law_1445).trans ((w_iald0 dLa_law_1446).trans (ite_c (w_virt (vs := [.int (E.2 (a3 + 1).toNatClampNeg), .int (E.2 (a3 + (nI 2)).toNatClampNeg), .int (E.2 (a3 + (nI 3)).toNatClampNeg)]) (st' := [.int s0]) (es := [.ref 166, .int (E.2 (a3 + 1).toNatClampNeg), .int (E.2 (a3 + (nI 2)).toNatClampNeg), .int (E.2 (a3 + (nI 3)).toNatClampNeg), uu, uu, uu, uu]) dLa_law_1447 rz12_170 rfl sh_166 rfl rfl rfl (Nat.le_of_ble_eq_true rfl) (Nat.le_of_ble_eq_true rfl) rfl)))))))))))))))))))
theorem bLa_law_1450 {E : mEn} {d : Nat} {σ : mSt} {Q : mPost} {a3 : Int32} {s0 : Int32} {s1 : Int32} : WP E d mLa_law 1450 [.ref 1000, .ref 0, .ref 166, .int a3] [.int s0, .int s1] σ Q = (if s1 = s0 then WP E d mLa_law 1788 [.ref 1000, .ref 0, .ref 166, .int a3] [] σ Q else WP E d mLa_law 1453 [.ref 1000, .ref 0, .ref 166, .int a3] [] σ Q) := w_icmpeq (t := 1788) dLa_law_1450 (by decide)
theorem bLa_law_1453 {E : mEn} {d : Nat} {σ : mSt} {Q : mPost} {a3 : Int32} : WP E d mLa_law 1453 [.ref 1000, .ref 0, .ref 166, .int a3] [] σ Q = Q (some (.int 0)) σ := (w_iconst (v := 0) dLa_law_1453 rfl).trans (w_zret dLa_law_1454 rfl (Or.inl rfl))
theorem bLa_law_1455 {E : mEn} {d : Nat} {σ : mSt} {Q : mPost} {a3 : Int32} : WP E (d + 1) mLa_law 1455 [.ref 1000, .ref 0, .ref 166, .int a3] [] σ Q = (if mOut (a3 + 1) E.1 = true then False else (if mOut (a3 + (nI 2)) E.1 = true then False else (if mOut (a3 + (nI 3)) E.1 = true then False else (if mOut (a3 + (nI 4)) E.1 = true then False else (if mOut (a3 + (nI 5)) E.1 = true then False else WP E d mPb_make 0 [.ref 0, .int (E.2 (a3 + 1).toNatClampNeg), .int (E.2 (a3 + (nI 2)).toNatClampNeg), .int (E.2 (a3 + (nI 3)).toNatClampNeg), .int (E.2 (a3 + (nI 4)).toNatClampNeg), .int (E.2 (a3 + (nI 5)).toNatClampNeg)] [] σ (fun r σ' => WP E (d + 1) mLa_law 1484 [.ref 1000, .ref 0, .ref 166, .int a3] (r.toList ++ []) σ' Q)))))) := (w_aload_n dLa_law_1455 rfl).trans ((w_aload_n dLa_law_1456 rfl).trans ((w_iload_n dLa_law_1457 rfl).trans ((w_iconst (v := 1) dLa_law_1458 rfl).trans ((w_iadd dLa_law_1459).trans ((w_iald0 dLa_law_1460).trans (ite_c ((w_aload_n dLa_law_1461 rfl).trans ((w_iload_n dLa_law_1462 rfl).trans ((w_iconst (v := (nI 2)) dLa_law_1463 rfl).trans ((w_iadd dLa_law_1464).trans ((w_iald0 dLa_law_1465).trans (ite_c ((w_aload_n dLa_law_1466 rfl).trans ((w_iload_n dLa_law_1467 rfl).trans ((w_iconst (v := (nI 3)) dLa_law_1468 rfl).trans ((w_iadd dLa_law_1469).trans ((w_iald0 dLa_law_1470).trans (ite_c ((w_aload_n dLa_law_1471 rfl).trans ((w_iload_n dLa_law_1472 rfl).trans ((w_iconst (v := (nI 4)) dLa_law_1473 rfl).trans ((w_iadd dLa_law_1474).trans ((w_iald0 dLa_law_1475).trans (ite_c ((w_aload_n dLa_law_1476 rfl).trans ((w_iload_n dLa_law_1477 rfl).trans ((w_iconst (v := (nI 5)) dLa_law_1478 rfl).trans ((w_iadd dLa_law_1479).trans ((w_iald0 dLa_law_1480).trans (ite_c (w_virt (vs := [.int (E.2 (a3 + 1).toNatClampNeg), .int (E.2 (a3 + (nI 2)).toNatClampNeg), .int (E.2 (a3 + (nI 3)).toNatClampNeg), .int (E.2 (a3 + (nI 4)).toNatClampNeg), .int (E.2 (a3 + (nI 5)).toNatClampNeg)]) (st' := []) (es := [.ref 0, .int (E.2 (a3 + 1).toNatClampNeg), .int (E.2 (a3 + (nI 2)).toNatClampNeg), .int (E.2 (a3 + (nI 3)).toNatClampNeg), .int (E.2 (a3 + (nI 4)).toNatClampNeg), .int (E.2 (a3 + (nI 5)).toNatClampNeg)]) dLa_law_1481 rz12_171 rfl sh_0 rfl rfl rfl (Nat.le_of_ble_eq_true rfl) (Nat.le_of_ble_eq_true rfl) rfl)))))))))))))))))))))))))))))))
theorem bLa_law_1484 {E : mEn} {d : Nat} {σ : mSt} {Q : mPost} {a3 : Int32} {s0 : Int32} : WP E (d + 1) mLa_law 1484 [.ref 1000, .ref 0, .ref 166, .int a3] [.int s0] σ Q = (if mOut (a3 + 1) E.1 = true then False else (if mOut (a3 + (nI 2)) E.1 = true then False else (if mOut (a3 + (nI 3)) E.1 = true then False else (if mOut (a3 + (nI 4)) E.1 = true then False else (if mOut (a3 + (nI 5)) E.1 = true then False else WP E d mMo_make 0 [.ref 166, .int (E.2 (a3 + 1).toNatClampNeg), .int (E.2 (a3 + (nI 2)).toNatClampNeg), .int (E.2 (a3 + (nI 3)).toNatClampNeg), .int (E.2 (a3 + (nI 4)).toNatClampNeg), .int (E.2 (a3 + (nI 5)).toNatClampNeg)] [] σ (fun r σ' => WP E (d + 1) mLa_law 1513 [.ref 1000, .ref 0, .ref 166, .int a3] (r.toList ++ [.int s0]) σ' Q)))))) := (w_aload_n dLa_law_1484 rfl).trans ((w_aload_n dLa_law_1485 rfl).trans ((w_iload_n dLa_law_1486 rfl).trans ((w_iconst (v := 1) dLa_law_1487 rfl).trans ((w_iadd dLa_law_1488).trans ((w_iald0 dLa_law_1489).trans (ite_c ((w_aload_n dLa_law_1490 rfl).trans ((w_iload_n dLa_law_1491 rfl).trans ((w_iconst (v := (nI 2)) dLa_law_1492 rfl).trans ((w_iadd dLa_law_1493).trans ((w_iald0 dLa_law_1494).trans (ite_c ((w_aload_n dLa_law_1495 rfl).trans ((w_iload_n dLa_law_1496 rfl).trans ((w_iconst (v := (nI 3)) dLa_law_1497 rfl).trans ((w_iadd dLa_law_1498).trans ((w_iald0 dLa_law_1499).trans (ite_c ((w_aload_n dLa_law_1500 rfl).trans ((w_iload_n dLa_law_1501 rfl).trans ((w_iconst (v := (nI 4)) dLa_law_1502 rfl).trans ((w_iadd dLa_law_1503).trans ((w_iald0 dLa_law_1504).trans (ite_c ((w_aload_n dLa_law_1505 rfl).trans ((w_iload_n dLa_law_1506 rfl).trans ((w_iconst (v := (nI 5)) dLa_law_1507 rfl).trans ((w_iadd dLa_law_1508).trans ((w_iald0 dLa_law_1509).trans (ite_c (w_virt (vs := [.int (E.2 (a3 + 1).toNatClampNeg), .int (E.2 (a3 + (nI 2)).toNatClampNeg), .int (E.2 (a3 + (nI 3)).toNatClampNeg), .int (E.2 (a3 + (nI 4)).toNatClampNeg), .int (E.2 (a3 + (nI 5)).toNatClampNeg)]) (st' := [.int s0]) (es := [.ref 166, .int (E.2 (a3 + 1).toNatClampNeg), .int (E.2 (a3 + (nI 2)).toNatClampNeg), .int (E.2 (a3 + (nI 3)).toNatClampNeg), .int (E.2 (a3 + (nI 4)).toNatClampNeg), .int (E.2 (a3 + (nI 5)).toNatClampNeg)]) dLa_law_1510 rz12_174 rfl sh_166 rfl rfl rfl (Nat.le_of_ble_eq_true rfl) (Nat.le_of_ble_eq_true rfl) rfl)))))))))))))))))))))))))))))))
theorem bLa_law_1513 {E : mEn} {d : Nat} {σ : mSt} {Q : mPost} {a3 : Int32} {s0 : Int32} {s1 : Int32} : WP E d mLa_law 1513 [.ref 1000, .ref 0, .ref 166, .int a3] [.int s0, .int s1] σ Q = (if s1 = s0 then WP E d mLa_law 1788 [.ref 1000, .ref 0, .ref 166, .int a3] [] σ Q else WP E d mLa_law 1516 [.ref 1000, .ref 0, .ref 166, .int a3] [] σ Q) := w_icmpeq (t := 1788) dLa_law_1513 (by decide)
theorem bLa_law_1516 {E : mEn} {d : Nat} {σ : mSt} {Q : mPost} {a3 : Int32} : WP E d mLa_law 1516 [.ref 1000, .ref 0, .ref 166, .int a3] [] σ Q = Q (some (.int 0)) σ := (w_iconst (v := 0) dLa_law_1516 rfl).trans (w_zret dLa_law_1517 rfl (Or.inl rfl))
theorem bLa_law_1518 {E : mEn} {d : Nat} {σ : mSt} {Q : mPost} {a3 : Int32} : WP E (d + 1) mLa_law 1518 [.ref 1000, .ref 0, .ref 166, .int a3] [] σ Q = (if mOut (a3 + 1) E.1 = true then False else WP E d mPb_letGo 0 [.ref 0, .int (E.2 (a3 + 1).toNatClampNeg)] [] σ (fun r σ' => WP E (d + 1) mLa_law 1527 [.ref 1000, .ref 0, .ref 166, .int a3] (r.toList ++ []) σ' Q)) := (w_aload_n dLa_law_1518 rfl).trans ((w_aload_n dLa_law_1519 rfl).trans ((w_iload_n dLa_law_1520 rfl).trans ((w_iconst (v := 1) dLa_law_1521 rfl).trans ((w_iadd dLa_law_1522).trans ((w_iald0 dLa_law_1523).trans (ite_c (w_virt (vs := [.int (E.2 (a3 + 1).toNatClampNeg)]) (st' := []) (es := [.ref 0, .int (E.2 (a3 + 1).toNatClampNeg)]) dLa_law_1524 rz12_175 rfl sh_0 rfl rfl rfl (Nat.le_of_ble_eq_true rfl) (Nat.le_of_ble_eq_true rfl) rfl)))))))
theorem bLa_law_1527 {E : mEn} {d : Nat} {σ : mSt} {Q : mPost} {a3 : Int32} {s0 : Int32} : WP E (d + 1) mLa_law 1527 [.ref 1000, .ref 0, .ref 166, .int a3] [.int s0] σ Q = (if mOut (a3 + 1) E.1 = true then False else WP E d mMo_letGo 0 [.ref 166, .int (E.2 (a3 + 1).toNatClampNeg)] [] σ (fun r σ' => WP E (d + 1) mLa_law 1536 [.ref 1000, .ref 0, .ref 166, .int a3] (r.toList ++ [.int s0]) σ' Q)) := (w_aload_n dLa_law_1527 rfl).trans ((w_aload_n dLa_law_1528 rfl).trans ((w_iload_n dLa_law_1529 rfl).trans ((w_iconst (v := 1) dLa_law_1530 rfl).trans ((w_iadd dLa_law_1531).trans ((w_iald0 dLa_law_1532).trans (ite_c (w_virt (vs := [.int (E.2 (a3 + 1).toNatClampNeg)]) (st' := [.int s0]) (es := [.ref 166, .int (E.2 (a3 + 1).toNatClampNeg)]) dLa_law_1533 rz12_179 rfl sh_166 rfl rfl rfl (Nat.le_of_ble_eq_true rfl) (Nat.le_of_ble_eq_true rfl) rfl)))))))
theorem bLa_law_1536 {E : mEn} {d : Nat} {σ : mSt} {Q : mPost} {a3 : Int32} {s0 : Int32} {s1 : Int32} : WP E d mLa_law 1536 [.ref 1000, .ref 0, .ref 166, .int a3] [.int s0, .int s1] σ Q = (if s1 = s0 then WP E d mLa_law 1788 [.ref 1000, .ref 0, .ref 166, .int a3] [] σ Q else WP E d mLa_law 1539 [.ref 1000, .ref 0, .ref 166, .int a3] [] σ Q) := w_icmpeq (t := 1788) dLa_law_1536 (by decide)
theorem bLa_law_1539 {E : mEn} {d : Nat} {σ : mSt} {Q : mPost} {a3 : Int32} : WP E d mLa_law 1539 [.ref 1000, .ref 0, .ref 166, .int a3] [] σ Q = Q (some (.int 0)) σ := (w_iconst (v := 0) dLa_law_1539 rfl).trans (w_zret dLa_law_1540 rfl (Or.inl rfl))
theorem bLa_law_1541 {E : mEn} {d : Nat} {σ : mSt} {Q : mPost} {a3 : Int32} : WP E (d + 1) mLa_law 1541 [.ref 1000, .ref 0, .ref 166, .int a3] [] σ Q = (if mOut (a3 + 1) E.1 = true then False else WP E d mPb_bake 0 [.ref 0, .int (E.2 (a3 + 1).toNatClampNeg)] [] σ (fun r σ' => WP E (d + 1) mLa_law 1550 [.ref 1000, .ref 0, .ref 166, .int a3] (r.toList ++ []) σ' Q)) := (w_aload_n dLa_law_1541 rfl).trans ((w_aload_n dLa_law_1542 rfl).trans ((w_iload_n dLa_law_1543 rfl).trans ((w_iconst (v := 1) dLa_law_1544 rfl).trans ((w_iadd dLa_law_1545).trans ((w_iald0 dLa_law_1546).trans (ite_c (w_virt (vs := [.int (E.2 (a3 + 1).toNatClampNeg)]) (st' := []) (es := [.ref 0, .int (E.2 (a3 + 1).toNatClampNeg)]) dLa_law_1547 rz12_180 rfl sh_0 rfl rfl rfl (Nat.le_of_ble_eq_true rfl) (Nat.le_of_ble_eq_true rfl) rfl)))))))
theorem bLa_law_1550 {E : mEn} {d : Nat} {σ : mSt} {Q : mPost} {a3 : Int32} {s0 : Int32} : WP E (d + 1) mLa_law 1550 [.ref 1000, .ref 0, .ref 166, .int a3] [.int s0] σ Q = (if mOut (a3 + 1) E.1 = true then False else WP E d mMo_bake 0 [.ref 166, .int (E.2 (a3 + 1).toNatClampNeg), uu] [] σ (fun r σ' => WP E (d + 1) mLa_law 1559 [.ref 1000, .ref 0, .ref 166, .int a3] (r.toList ++ [.int s0]) σ' Q)) := (w_aload_n dLa_law_1550 rfl).trans ((w_aload_n dLa_law_1551 rfl).trans ((w_iload_n dLa_law_1552 rfl).trans ((w_iconst (v := 1) dLa_law_1553 rfl).trans ((w_iadd dLa_law_1554).trans ((w_iald0 dLa_law_1555).trans (ite_c (w_virt (vs := [.int (E.2 (a3 + 1).toNatClampNeg)]) (st' := [.int s0]) (es := [.ref 166, .int (E.2 (a3 + 1).toNatClampNeg), uu]) dLa_law_1556 rz12_183 rfl sh_166 rfl rfl rfl (Nat.le_of_ble_eq_true rfl) (Nat.le_of_ble_eq_true rfl) rfl)))))))
theorem bLa_law_1559 {E : mEn} {d : Nat} {σ : mSt} {Q : mPost} {a3 : Int32} {s0 : Int32} {s1 : Int32} : WP E d mLa_law 1559 [.ref 1000, .ref 0, .ref 166, .int a3] [.int s0, .int s1] σ Q = (if s1 = s0 then WP E d mLa_law 1788 [.ref 1000, .ref 0, .ref 166, .int a3] [] σ Q else WP E d mLa_law 1562 [.ref 1000, .ref 0, .ref 166, .int a3] [] σ Q) := w_icmpeq (t := 1788) dLa_law_1559 (by decide)
theorem bLa_law_1562 {E : mEn} {d : Nat} {σ : mSt} {Q : mPost} {a3 : Int32} : WP E d mLa_law 1562 [.ref 1000, .ref 0, .ref 166, .int a3] [] σ Q = Q (some (.int 0)) σ := (w_iconst (v := 0) dLa_law_1562 rfl).trans (w_zret dLa_law_1563 rfl (Or.inl rfl))
theorem bLa_law_1564 {E : mEn} {d : Nat} {σ : mSt} {Q : mPost} {a3 : Int32} : WP E (d + 1) mLa_law 1564 [.ref 1000, .ref 0, .ref 166, .int a3] [] σ Q = (if mOut (a3 + 1) E.1 = true then False else WP E d mPb_pass 0 [.ref 0, .int (E.2 (a3 + 1).toNatClampNeg)] [] σ (fun r σ' => WP E (d + 1) mLa_law 1573 [.ref 1000, .ref 0, .ref 166, .int a3] (r.toList ++ []) σ' Q)) := (w_aload_n dLa_law_1564 rfl).trans ((w_aload_n dLa_law_1565 rfl).trans ((w_iload_n dLa_law_1566 rfl).trans ((w_iconst (v := 1) dLa_law_1567 rfl).trans ((w_iadd dLa_law_1568).trans ((w_iald0 dLa_law_1569).trans (ite_c (w_virt (vs := [.int (E.2 (a3 + 1).toNatClampNeg)]) (st' := []) (es := [.ref 0, .int (E.2 (a3 + 1).toNatClampNeg)]) dLa_law_1570 rz12_184 rfl sh_0 rfl rfl rfl (Nat.le_of_ble_eq_true rfl) (Nat.le_of_ble_eq_true rfl) rfl)))))))
theorem bLa_law_1573 {E : mEn} {d : Nat} {σ : mSt} {Q : mPost} {a3 : Int32} {s0 : Int32} : WP E (d + 1) mLa_law 1573 [.ref 1000, .ref 0, .ref 166, .int a3] [.int s0] σ Q = (if mOut (a3 + 1) E.1 = true then False else WP E d mMo_pass 0 [.ref 166, .int (E.2 (a3 + 1).toNatClampNeg)] [] σ (fun r σ' => WP E (d + 1) mLa_law 1582 [.ref 1000, .ref 0, .ref 166, .int a3] (r.toList ++ [.int s0]) σ' Q)) := (w_aload_n dLa_law_1573 rfl).trans ((w_aload_n dLa_law_1574 rfl).trans ((w_iload_n dLa_law_1575 rfl).trans ((w_iconst (v := 1) dLa_law_1576 rfl).trans ((w_iadd dLa_law_1577).trans ((w_iald0 dLa_law_1578).trans (ite_c (w_virt (vs := [.int (E.2 (a3 + 1).toNatClampNeg)]) (st' := [.int s0]) (es := [.ref 166, .int (E.2 (a3 + 1).toNatClampNeg)]) dLa_law_1579 rz12_187 rfl sh_166 rfl rfl rfl (Nat.le_of_ble_eq_true rfl) (Nat.le_of_ble_eq_true rfl) rfl)))))))
theorem bLa_law_1582 {E : mEn} {d : Nat} {σ : mSt} {Q : mPost} {a3 : Int32} {s0 : Int32} {s1 : Int32} : WP E d mLa_law 1582 [.ref 1000, .ref 0, .ref 166, .int a3] [.int s0, .int s1] σ Q = (if s1 = s0 then WP E d mLa_law 1788 [.ref 1000, .ref 0, .ref 166, .int a3] [] σ Q else WP E d mLa_law 1585 [.ref 1000, .ref 0, .ref 166, .int a3] [] σ Q) := w_icmpeq (t := 1788) dLa_law_1582 (by decide)
theorem bLa_law_1585 {E : mEn} {d : Nat} {σ : mSt} {Q : mPost} {a3 : Int32} : WP E d mLa_law 1585 [.ref 1000, .ref 0, .ref 166, .int a3] [] σ Q = Q (some (.int 0)) σ := (w_iconst (v := 0) dLa_law_1585 rfl).trans (w_zret dLa_law_1586 rfl (Or.inl rfl))
theorem bLa_law_1587 {E : mEn} {d : Nat} {σ : mSt} {Q : mPost} {a3 : Int32} : WP E (d + 1) mLa_law 1587 [.ref 1000, .ref 0, .ref 166, .int a3] [] σ Q = (if mOut (a3 + 1) E.1 = true then False else (if mOut (a3 + (nI 2)) E.1 = true then False else WP E d mPb_eat 0 [.ref 0, .int (E.2 (a3 + 1).toNatClampNeg), .int (E.2 (a3 + (nI 2)).toNatClampNeg)] [] σ (fun r σ' => WP E (d + 1) mLa_law 1601 [.ref 1000, .ref 0, .ref 166, .int a3] (r.toList ++ []) σ' Q))) := (w_aload_n dLa_law_1587 rfl).trans ((w_aload_n dLa_law_1588 rfl).trans ((w_iload_n dLa_law_1589 rfl).trans ((w_iconst (v := 1) dLa_law_1590 rfl).trans ((w_iadd dLa_law_1591).trans ((w_iald0 dLa_law_1592).trans (ite_c ((w_aload_n dLa_law_1593 rfl).trans ((w_iload_n dLa_law_1594 rfl).trans ((w_iconst (v := (nI 2)) dLa_law_1595 rfl).trans ((w_iadd dLa_law_1596).trans ((w_iald0 dLa_law_1597).trans (ite_c (w_virt (vs := [.int (E.2 (a3 + 1).toNatClampNeg), .int (E.2 (a3 + (nI 2)).toNatClampNeg)]) (st' := []) (es := [.ref 0, .int (E.2 (a3 + 1).toNatClampNeg), .int (E.2 (a3 + (nI 2)).toNatClampNeg)]) dLa_law_1598 rz12_188 rfl sh_0 rfl rfl rfl (Nat.le_of_ble_eq_true rfl) (Nat.le_of_ble_eq_true rfl) rfl)))))))))))))
theorem bLa_law_1601 {E : mEn} {d : Nat} {σ : mSt} {Q : mPost} {a3 : Int32} {s0 : Int32} : WP E (d + 1) mLa_law 1601 [.ref 1000, .ref 0, .ref 166, .int a3] [.int s0] σ Q = (if mOut (a3 + 1) E.1 = true then False else (if mOut (a3 + (nI 2)) E.1 = true then False else WP E d mMo_eat 0 [.ref 166, .int (E.2 (a3 + 1).toNatClampNeg), .int (E.2 (a3 + (nI 2)).toNatClampNeg)] [] σ (fun r σ' => WP E (d + 1) mLa_law 1615 [.ref 1000, .ref 0, .ref 166, .int a3] (r.toList ++ [.int s0]) σ' Q))) := (w_aload_n dLa_law_1601 rfl).trans ((w_aload_n dLa_law_1602 rfl).trans ((w_iload_n dLa_law_1603 rfl).trans ((w_iconst (v := 1) dLa_law_1604 rfl).trans ((w_iadd dLa_law_1605).trans ((w_iald0 dLa_law_1606).trans (ite_c ((w_aload_n dLa_law_1607 rfl).trans ((w_iload_n dLa_law_1608 rfl).trans ((w_iconst (v := (nI 2)) dLa_law_1609 rfl).trans ((w_iadd dLa_law_1610).trans ((w_iald0 dLa_law_1611).trans (ite_c (w_virt (vs := [.int (E.2 (a3 + 1).toNatClampNeg), .int (E.2 (a3 + (nI 2)).toNatClampNeg)]) (st' := [.int s0]) (es := [.ref 166, .int (E.2 (a3 + 1).toNatClampNeg), .int (E.2 (a3 + (nI 2)).toNatClampNeg)]) dLa_law_1612 rz12_191 rfl sh_166 rfl rfl rfl (Nat.le_of_ble_eq_true rfl) (Nat.le_of_ble_eq_true rfl) rfl)))))))))))))
theorem bLa_law_1615 {E : mEn} {d : Nat} {σ : mSt} {Q : mPost} {a3 : Int32} {s0 : Int32} {s1 : Int32} : WP E d mLa_law 1615 [.ref 1000, .ref 0, .ref 166, .int a3] [.int s0, .int s1] σ Q = (if s1 = s0 then WP E d mLa_law 1788 [.ref 1000, .ref 0, .ref 166, .int a3] [] σ Q else WP E d mLa_law 1618 [.ref 1000, .ref 0, .ref 166, .int a3] [] σ Q) := w_icmpeq (t := 1788) dLa_law_1615 (by decide)
theorem bLa_law_1618 {E : mEn} {d : Nat} {σ : mSt} {Q : mPost} {a3 : Int32} : WP E d mLa_law 1618 [.ref 1000, .ref 0, .ref 166, .int a3] [] σ Q = Q (some (.int 0)) σ := (w_iconst (v := 0) dLa_law_1618 rfl).trans (w_zret dLa_law_1619 rfl (Or.inl rfl))
theorem bLa_law_1620 {E : mEn} {d : Nat} {σ : mSt} {Q : mPost} {a3 : Int32} : WP E (d + 1) mLa_law 1620 [.ref 1000, .ref 0, .ref 166, .int a3] [] σ Q = (if mOut (a3 + 1) E.1 = true then False else (if mOut (a3 + (nI 2)) E.1 = true then False else (if mOut (a3 + (nI 3)) E.1 = true then False else WP E d mPb_pay 0 [.ref 0, .int (E.2 (a3 + 1).toNatClampNeg), .int (E.2 (a3 + (nI 2)).toNatClampNeg), .int (E.2 (a3 + (nI 3)).toNatClampNeg)] [] σ (fun r σ' => WP E (d + 1) mLa_law 1639 [.ref 1000, .ref 0, .ref 166, .int a3] (r.toList ++ []) σ' Q)))) := (w_aload_n dLa_law_1620 rfl).trans ((w_aload_n dLa_law_1621 rfl).trans ((w_iload_n dLa_law_1622 rfl).trans ((w_iconst (v := 1) dLa_law_1623 rfl).trans ((w_iadd dLa_law_1624).trans ((w_iald0 dLa_law_1625).trans (ite_c ((w_aload_n dLa_law_1626 rfl).trans ((w_iload_n dLa_law_1627 rfl).trans ((w_iconst (v := (nI 2)) dLa_law_1628 rfl).trans ((w_iadd dLa_law_1629).trans ((w_iald0 dLa_law_1630).trans (ite_c ((w_aload_n dLa_law_1631 rfl).trans ((w_iload_n dLa_law_1632 rfl).trans ((w_iconst (v := (nI 3)) dLa_law_1633 rfl).trans ((w_iadd dLa_law_1634).trans ((w_iald0 dLa_law_1635).trans (ite_c (w_virt (vs := [.int (E.2 (a3 + 1).toNatClampNeg), .int (E.2 (a3 + (nI 2)).toNatClampNeg), .int (E.2 (a3 + (nI 3)).toNatClampNeg)]) (st' := []) (es := [.ref 0, .int (E.2 (a3 + 1).toNatClampNeg), .int (E.2 (a3 + (nI 2)).toNatClampNeg), .int (E.2 (a3 + (nI 3)).toNatClampNeg)]) dLa_law_1636 rz12_192 rfl sh_0 rfl rfl rfl (Nat.le_of_ble_eq_true rfl) (Nat.le_of_ble_eq_true rfl) rfl)))))))))))))))))))
theorem bLa_law_1639 {E : mEn} {d : Nat} {σ : mSt} {Q : mPost} {a3 : Int32} {s0 : Int32} : WP E (d + 1) mLa_law 1639 [.ref 1000, .ref 0, .ref 166, .int a3] [.int s0] σ Q = (if mOut (a3 + 1) E.1 = true then False else (if mOut (a3 + (nI 2)) E.1 = true then False else (if mOut (a3 + (nI 3)) E.1 = true then False else WP E d mMo_pay 0 [.ref 166, .int (E.2 (a3 + 1).toNatClampNeg), .int (E.2 (a3 + (nI 2)).toNatClampNeg), .int (E.2 (a3 + (nI 3)).toNatClampNeg)] [] σ (fun r σ' => WP E (d + 1) mLa_law 1658 [.ref 1000, .ref 0, .ref 166, .int a3] (r.toList ++ [.int s0]) σ' Q)))) := (w_aload_n dLa_law_1639 rfl).trans ((w_aload_n dLa_law_1640 rfl).trans ((w_iload_n dLa_law_1641 rfl).trans ((w_iconst (v := 1) dLa_law_1642 rfl).trans ((w_iadd dLa_law_1643).trans ((w_iald0 dLa_law_1644).trans (ite_c ((w_aload_n dLa_law_1645 rfl).trans ((w_iload_n dLa_law_1646 rfl).trans ((w_iconst (v := (nI 2)) dLa_law_1647 rfl).trans ((w_iadd dLa_law_1648).trans ((w_iald0 dLa_law_1649).trans (ite_c ((w_aload_n dLa_law_1650 rfl).trans ((w_iload_n dLa_law_1651 rfl).trans ((w_iconst (v := (nI 3)) dLa_law_1652 rfl).trans ((w_iadd dLa_law_1653).trans ((w_iald0 dLa_law_1654).trans (ite_c (w_virt (vs := [.int (E.2 (a3 + 1).toNatClampNeg), .int (E.2 (a3 + (nI 2)).toNatClampNeg), .int (E.2 (a3 + (nI 3)).toNatClampNeg)]) (st' := [.int s0]) (es := [.ref 166, .int (E.2 (a3 + 1).toNatClampNeg), .int (E.2 (a3 + (nI 2)).toNatClampNeg), .int (E.2 (a3 + (nI 3)).toNatClampNeg)]) dLa_law_1655 rz12_195 rfl sh_166 rfl rfl rfl (Nat.le_of_ble_eq_true rfl) (Nat.le_of_ble_eq_true rfl) rfl)))))))))))))))))))
theorem bLa_law_1658 {E : mEn} {d : Nat} {σ : mSt} {Q : mPost} {a3 : Int32} {s0 : Int32} {s1 : Int32} : WP E d mLa_law 1658 [.ref 1000, .ref 0, .ref 166, .int a3] [.int s0, .int s1] σ Q = (if s1 = s0 then WP E d mLa_law 1788 [.ref 1000, .ref 0, .ref 166, .int a3] [] σ Q else WP E d mLa_law 1661 [.ref 1000, .ref 0, .ref 166, .int a3] [] σ Q) := w_icmpeq (t := 1788) dLa_law_1658 (by decide)
theorem bLa_law_1661 {E : mEn} {d : Nat} {σ : mSt} {Q : mPost} {a3 : Int32} : WP E d mLa_law 1661 [.ref 1000, .ref 0, .ref 166, .int a3] [] σ Q = Q (some (.int 0)) σ := (w_iconst (v := 0) dLa_law_1661 rfl).trans (w_zret dLa_law_1662 rfl (Or.inl rfl))
theorem bLa_law_1663 {E : mEn} {d : Nat} {σ : mSt} {Q : mPost} {a3 : Int32} : WP E (d + 1) mLa_law 1663 [.ref 1000, .ref 0, .ref 166, .int a3] [] σ Q = (if mOut (a3 + 1) E.1 = true then False else WP E d mPb_live 0 [.ref 0, .int (E.2 (a3 + 1).toNatClampNeg)] [] σ (fun r σ' => WP E (d + 1) mLa_law 1672 [.ref 1000, .ref 0, .ref 166, .int a3] (r.toList ++ []) σ' Q)) := (w_aload_n dLa_law_1663 rfl).trans ((w_aload_n dLa_law_1664 rfl).trans ((w_iload_n dLa_law_1665 rfl).trans ((w_iconst (v := 1) dLa_law_1666 rfl).trans ((w_iadd dLa_law_1667).trans ((w_iald0 dLa_law_1668).trans (ite_c (w_virt (vs := [.int (E.2 (a3 + 1).toNatClampNeg)]) (st' := []) (es := [.ref 0, .int (E.2 (a3 + 1).toNatClampNeg)]) dLa_law_1669 rz12_196 rfl sh_0 rfl rfl rfl (Nat.le_of_ble_eq_true rfl) (Nat.le_of_ble_eq_true rfl) rfl)))))))
theorem bLa_law_1672 {E : mEn} {d : Nat} {σ : mSt} {Q : mPost} {a3 : Int32} {s0 : Int32} : WP E (d + 1) mLa_law 1672 [.ref 1000, .ref 0, .ref 166, .int a3] [.int s0] σ Q = (if mOut (a3 + 1) E.1 = true then False else WP E d mMo_live 0 [.ref 166, .int (E.2 (a3 + 1).toNatClampNeg)] [] σ (fun r σ' => WP E (d + 1) mLa_law 1681 [.ref 1000, .ref 0, .ref 166, .int a3] (r.toList ++ [.int s0]) σ' Q)) := (w_aload_n dLa_law_1672 rfl).trans ((w_aload_n dLa_law_1673 rfl).trans ((w_iload_n dLa_law_1674 rfl).trans ((w_iconst (v := 1) dLa_law_1675 rfl).trans ((w_iadd dLa_law_1676).trans ((w_iald0 dLa_law_1677).trans (ite_c (w_virt (vs := [.int (E.2 (a3 + 1).toNatClampNeg)]) (st' := [.int s0]) (es := [.ref 166, .int (E.2 (a3 + 1).toNatClampNeg)]) dLa_law_1678 rz12_199 rfl sh_166 rfl rfl rfl (Nat.le_of_ble_eq_true rfl) (Nat.le_of_ble_eq_true rfl) rfl)))))))
theorem bLa_law_1681 {E : mEn} {d : Nat} {σ : mSt} {Q : mPost} {a3 : Int32} {s0 : Int32} {s1 : Int32} : WP E d mLa_law 1681 [.ref 1000, .ref 0, .ref 166, .int a3] [.int s0, .int s1] σ Q = (if s1 = s0 then WP E d mLa_law 1788 [.ref 1000, .ref 0, .ref 166, .int a3] [] σ Q else WP E d mLa_law 1684 [.ref 1000, .ref 0, .ref 166, .int a3] [] σ Q) := w_icmpeq (t := 1788) dLa_law_1681 (by decide)
theorem bLa_law_1684 {E : mEn} {d : Nat} {σ : mSt} {Q : mPost} {a3 : Int32} : WP E d mLa_law 1684 [.ref 1000, .ref 0, .ref 166, .int a3] [] σ Q = Q (some (.int 0)) σ := (w_iconst (v := 0) dLa_law_1684 rfl).trans (w_zret dLa_law_1685 rfl (Or.inl rfl))
theorem bLa_law_1686 {E : mEn} {d : Nat} {σ : mSt} {Q : mPost} {a3 : Int32} : WP E (d + 1) mLa_law 1686 [.ref 1000, .ref 0, .ref 166, .int a3] [] σ Q = (if mOut (a3 + 1) E.1 = true then False else WP E d mPb_lived 0 [.ref 0, .int (E.2 (a3 + 1).toNatClampNeg)] [] σ (fun r σ' => WP E (d + 1) mLa_law 1695 [.ref 1000, .ref 0, .ref 166, .int a3] (r.toList ++ []) σ' Q)) := (w_aload_n dLa_law_1686 rfl).trans ((w_aload_n dLa_law_1687 rfl).trans ((w_iload_n dLa_law_1688 rfl).trans ((w_iconst (v := 1) dLa_law_1689 rfl).trans ((w_iadd dLa_law_1690).trans ((w_iald0 dLa_law_1691).trans (ite_c (w_virt (vs := [.int (E.2 (a3 + 1).toNatClampNeg)]) (st' := []) (es := [.ref 0, .int (E.2 (a3 + 1).toNatClampNeg)]) dLa_law_1692 rz12_200 rfl sh_0 rfl rfl rfl (Nat.le_of_ble_eq_true rfl) (Nat.le_of_ble_eq_true rfl) rfl)))))))
theorem bLa_law_1695 {E : mEn} {d : Nat} {σ : mSt} {Q : mPost} {a3 : Int32} {s0 : Int32} : WP E (d + 1) mLa_law 1695 [.ref 1000, .ref 0, .ref 166, .int a3] [.int s0] σ Q = (if mOut (a3 + 1) E.1 = true then False else WP E d mMo_lived 0 [.ref 166, .int (E.2 (a3 + 1).toNatClampNeg)] [] σ (fun r σ' => WP E (d + 1) mLa_law 1704 [.ref 1000, .ref 0, .ref 166, .int a3] (r.toList ++ [.int s0]) σ' Q)) := (w_aload_n dLa_law_1695 rfl).trans ((w_aload_n dLa_law_1696 rfl).trans ((w_iload_n dLa_law_1697 rfl).trans ((w_iconst (v := 1) dLa_law_1698 rfl).trans ((w_iadd dLa_law_1699).trans ((w_iald0 dLa_law_1700).trans (ite_c (w_virt (vs := [.int (E.2 (a3 + 1).toNatClampNeg)]) (st' := [.int s0]) (es := [.ref 166, .int (E.2 (a3 + 1).toNatClampNeg)]) dLa_law_1701 rz12_203 rfl sh_166 rfl rfl rfl (Nat.le_of_ble_eq_true rfl) (Nat.le_of_ble_eq_true rfl) rfl)))))))
theorem bLa_law_1704 {E : mEn} {d : Nat} {σ : mSt} {Q : mPost} {a3 : Int32} {s0 : Int32} {s1 : Int32} : WP E d mLa_law 1704 [.ref 1000, .ref 0, .ref 166, .int a3] [.int s0, .int s1] σ Q = (if s1 = s0 then WP E d mLa_law 1788 [.ref 1000, .ref 0, .ref 166, .int a3] [] σ Q else WP E d mLa_law 1707 [.ref 1000, .ref 0, .ref 166, .int a3] [] σ Q) := w_icmpeq (t := 1788) dLa_law_1704 (by decide)
theorem bLa_law_1707 {E : mEn} {d : Nat} {σ : mSt} {Q : mPost} {a3 : Int32} : WP E d mLa_law 1707 [.ref 1000, .ref 0, .ref 166, .int a3] [] σ Q = Q (some (.int 0)) σ := (w_iconst (v := 0) dLa_law_1707 rfl).trans (w_zret dLa_law_1708 rfl (Or.inl rfl))
theorem bLa_law_1709 {E : mEn} {d : Nat} {σ : mSt} {Q : mPost} {a3 : Int32} : WP E (d + 1) mLa_law 1709 [.ref 1000, .ref 0, .ref 166, .int a3] [] σ Q = (if mOut (a3 + 1) E.1 = true then False else (if mOut (a3 + (nI 2)) E.1 = true then False else (if mOut (a3 + (nI 3)) E.1 = true then False else (if mOut (a3 + (nI 4)) E.1 = true then False else WP E d mPb_odds 0 [.ref 0, .int (E.2 (a3 + 1).toNatClampNeg), .int (E.2 (a3 + (nI 2)).toNatClampNeg), .int (E.2 (a3 + (nI 3)).toNatClampNeg), .int (E.2 (a3 + (nI 4)).toNatClampNeg), uu, uu] [] σ (fun r σ' => WP E (d + 1) mLa_law 1733 [.ref 1000, .ref 0, .ref 166, .int a3] (r.toList ++ []) σ' Q))))) := (w_aload_n dLa_law_1709 rfl).trans ((w_aload_n dLa_law_1710 rfl).trans ((w_iload_n dLa_law_1711 rfl).trans ((w_iconst (v := 1) dLa_law_1712 rfl).trans ((w_iadd dLa_law_1713).trans ((w_iald0 dLa_law_1714).trans (ite_c ((w_aload_n dLa_law_1715 rfl).trans ((w_iload_n dLa_law_1716 rfl).trans ((w_iconst (v := (nI 2)) dLa_law_1717 rfl).trans ((w_iadd dLa_law_1718).trans ((w_iald0 dLa_law_1719).trans (ite_c ((w_aload_n dLa_law_1720 rfl).trans ((w_iload_n dLa_law_1721 rfl).trans ((w_iconst (v := (nI 3)) dLa_law_1722 rfl).trans ((w_iadd dLa_law_1723).trans ((w_iald0 dLa_law_1724).trans (ite_c ((w_aload_n dLa_law_1725 rfl).trans ((w_iload_n dLa_law_1726 rfl).trans ((w_iconst (v := (nI 4)) dLa_law_1727 rfl).trans ((w_iadd dLa_law_1728).trans ((w_iald0 dLa_law_1729).trans (ite_c (w_virt (vs := [.int (E.2 (a3 + 1).toNatClampNeg), .int (E.2 (a3 + (nI 2)).toNatClampNeg), .int (E.2 (a3 + (nI 3)).toNatClampNeg), .int (E.2 (a3 + (nI 4)).toNatClampNeg)]) (st' := []) (es := [.ref 0, .int (E.2 (a3 + 1).toNatClampNeg), .int (E.2 (a3 + (nI 2)).toNatClampNeg), .int (E.2 (a3 + (nI 3)).toNatClampNeg), .int (E.2 (a3 + (nI 4)).toNatClampNeg), uu, uu]) dLa_law_1730 rz12_204 rfl sh_0 rfl rfl rfl (Nat.le_of_ble_eq_true rfl) (Nat.le_of_ble_eq_true rfl) rfl)))))))))))))))))))))))))
theorem bLa_law_1733 {E : mEn} {d : Nat} {σ : mSt} {Q : mPost} {a3 : Int32} {s0 : Int32} : WP E (d + 1) mLa_law 1733 [.ref 1000, .ref 0, .ref 166, .int a3] [.int s0] σ Q = (if mOut (a3 + 1) E.1 = true then False else (if mOut (a3 + (nI 2)) E.1 = true then False else (if mOut (a3 + (nI 3)) E.1 = true then False else (if mOut (a3 + (nI 4)) E.1 = true then False else WP E d mMo_odds 0 [.ref 166, .int (E.2 (a3 + 1).toNatClampNeg), .int (E.2 (a3 + (nI 2)).toNatClampNeg), .int (E.2 (a3 + (nI 3)).toNatClampNeg), .int (E.2 (a3 + (nI 4)).toNatClampNeg), uu, uu, uu] [] σ (fun r σ' => WP E (d + 1) mLa_law 1757 [.ref 1000, .ref 0, .ref 166, .int a3] (r.toList ++ [.int s0]) σ' Q))))) := (w_aload_n dLa_law_1733 rfl).trans ((w_aload_n dLa_law_1734 rfl).trans ((w_iload_n dLa_law_1735 rfl).trans ((w_iconst (v := 1) dLa_law_1736 rfl).trans ((w_iadd dLa_law_1737).trans ((w_iald0 dLa_law_1738).trans (ite_c ((w_aload_n dLa_law_1739 rfl).trans ((w_iload_n dLa_law_1740 rfl).trans ((w_iconst (v := (nI 2)) dLa_law_1741 rfl).trans ((w_iadd dLa_law_1742).trans ((w_iald0 dLa_law_1743).trans (ite_c ((w_aload_n dLa_law_1744 rfl).trans ((w_iload_n dLa_law_1745 rfl).trans ((w_iconst (v := (nI 3)) dLa_law_1746 rfl).trans ((w_iadd dLa_law_1747).trans ((w_iald0 dLa_law_1748).trans (ite_c ((w_aload_n dLa_law_1749 rfl).trans ((w_iload_n dLa_law_1750 rfl).trans ((w_iconst (v := (nI 4)) dLa_law_1751 rfl).trans ((w_iadd dLa_law_1752).trans ((w_iald0 dLa_law_1753).trans (ite_c (w_virt (vs := [.int (E.2 (a3 + 1).toNatClampNeg), .int (E.2 (a3 + (nI 2)).toNatClampNeg), .int (E.2 (a3 + (nI 3)).toNatClampNeg), .int (E.2 (a3 + (nI 4)).toNatClampNeg)]) (st' := [.int s0]) (es := [.ref 166, .int (E.2 (a3 + 1).toNatClampNeg), .int (E.2 (a3 + (nI 2)).toNatClampNeg), .int (E.2 (a3 + (nI 3)).toNatClampNeg), .int (E.2 (a3 + (nI 4)).toNatClampNeg), uu, uu, uu]) dLa_law_1754 rz12_208 rfl sh_166 rfl rfl rfl (Nat.le_of_ble_eq_true rfl) (Nat.le_of_ble_eq_true rfl) rfl)))))))))))))))))))))))))
theorem bLa_law_1757 {E : mEn} {d : Nat} {σ : mSt} {Q : mPost} {a3 : Int32} {s0 : Int32} {s1 : Int32} : WP E d mLa_law 1757 [.ref 1000, .ref 0, .ref 166, .int a3] [.int s0, .int s1] σ Q = (if s1 = s0 then WP E d mLa_law 1788 [.ref 1000, .ref 0, .ref 166, .int a3] [] σ Q else WP E d mLa_law 1760 [.ref 1000, .ref 0, .ref 166, .int a3] [] σ Q) := w_icmpeq (t := 1788) dLa_law_1757 (by decide)
theorem bLa_law_1760 {E : mEn} {d : Nat} {σ : mSt} {Q : mPost} {a3 : Int32} : WP E d mLa_law 1760 [.ref 1000, .ref 0, .ref 166, .int a3] [] σ Q = Q (some (.int 0)) σ := (w_iconst (v := 0) dLa_law_1760 rfl).trans (w_zret dLa_law_1761 rfl (Or.inl rfl))
theorem bLa_law_1762 {E : mEn} {d : Nat} {σ : mSt} {Q : mPost} {a3 : Int32} : WP E (d + 1) mLa_law 1762 [.ref 1000, .ref 0, .ref 166, .int a3] [] σ Q = WP E d mPb_mark 0 [.ref 0] [] σ (fun r σ' => WP E (d + 1) mLa_law 1766 [.ref 1000, .ref 0, .ref 166, .int a3] (r.toList ++ []) σ' Q) := (w_aload_n dLa_law_1762 rfl).trans (w_virt (vs := []) (st' := []) (es := [.ref 0]) dLa_law_1763 rz12_209 rfl sh_0 rfl rfl rfl (Nat.le_of_ble_eq_true rfl) (Nat.le_of_ble_eq_true rfl) rfl)
theorem bLa_law_1766 {E : mEn} {d : Nat} {σ : mSt} {Q : mPost} {a3 : Int32} {s0 : Int32} : WP E (d + 1) mLa_law 1766 [.ref 1000, .ref 0, .ref 166, .int a3] [.int s0] σ Q = WP E d mMo_mark 0 [.ref 166] [] σ (fun r σ' => WP E (d + 1) mLa_law 1770 [.ref 1000, .ref 0, .ref 166, .int a3] (r.toList ++ [.int s0]) σ' Q) := (w_aload_n dLa_law_1766 rfl).trans (w_virt (vs := []) (st' := [.int s0]) (es := [.ref 166]) dLa_law_1767 rz12_212 rfl sh_166 rfl rfl rfl (Nat.le_of_ble_eq_true rfl) (Nat.le_of_ble_eq_true rfl) rfl)
theorem bLa_law_1770 {E : mEn} {d : Nat} {σ : mSt} {Q : mPost} {a3 : Int32} {s0 : Int32} {s1 : Int32} : WP E d mLa_law 1770 [.ref 1000, .ref 0, .ref 166, .int a3] [.int s0, .int s1] σ Q = (if s1 = s0 then WP E d mLa_law 1788 [.ref 1000, .ref 0, .ref 166, .int a3] [] σ Q else WP E d mLa_law 1773 [.ref 1000, .ref 0, .ref 166, .int a3] [] σ Q) := w_icmpeq (t := 1788) dLa_law_1770 (by decide)
theorem bLa_law_1773 {E : mEn} {d : Nat} {σ : mSt} {Q : mPost} {a3 : Int32} : WP E d mLa_law 1773 [.ref 1000, .ref 0, .ref 166, .int a3] [] σ Q = Q (some (.int 0)) σ := (w_iconst (v := 0) dLa_law_1773 rfl).trans (w_zret dLa_law_1774 rfl (Or.inl rfl))
theorem bLa_law_1775 {E : mEn} {d : Nat} {σ : mSt} {Q : mPost} {a3 : Int32} : WP E (d + 1) mLa_law 1775 [.ref 1000, .ref 0, .ref 166, .int a3] [] σ Q = WP E d mPb_back 0 [.ref 0] [] σ (fun r σ' => WP E (d + 1) mLa_law 1779 [.ref 1000, .ref 0, .ref 166, .int a3] (r.toList ++ []) σ' Q) := (w_aload_n dLa_law_1775 rfl).trans (w_virt (vs := []) (st' := []) (es := [.ref 0]) dLa_law_1776 rz12_213 rfl sh_0 rfl rfl rfl (Nat.le_of_ble_eq_true rfl) (Nat.le_of_ble_eq_true rfl) rfl)
theorem bLa_law_1779 {E : mEn} {d : Nat} {σ : mSt} {Q : mPost} {a3 : Int32} {s0 : Int32} : WP E (d + 1) mLa_law 1779 [.ref 1000, .ref 0, .ref 166, .int a3] [.int s0] σ Q = WP E d mMo_back 0 [.ref 166] [] σ (fun r σ' => WP E (d + 1) mLa_law 1783 [.ref 1000, .ref 0, .ref 166, .int a3] (r.toList ++ [.int s0]) σ' Q) := (w_aload_n dLa_law_1779 rfl).trans (w_virt (vs := []) (st' := [.int s0]) (es := [.ref 166]) dLa_law_1780 rz12_216 rfl sh_166 rfl rfl rfl (Nat.le_of_ble_eq_true rfl) (Nat.le_of_ble_eq_true rfl) rfl)
theorem bLa_law_1783 {E : mEn} {d : Nat} {σ : mSt} {Q : mPost} {a3 : Int32} {s0 : Int32} {s1 : Int32} : WP E d mLa_law 1783 [.ref 1000, .ref 0, .ref 166, .int a3] [.int s0, .int s1] σ Q = (if s1 = s0 then WP E d mLa_law 1788 [.ref 1000, .ref 0, .ref 166, .int a3] [] σ Q else WP E d mLa_law 1786 [.ref 1000, .ref 0, .ref 166, .int a3] [] σ Q) := w_icmpeq (t := 1788) dLa_law_1783 (by decide)
theorem bLa_law_1786 {E : mEn} {d : Nat} {σ : mSt} {Q : mPost} {a3 : Int32} : WP E d mLa_law 1786 [.ref 1000, .ref 0, .ref 166, .int a3] [] σ Q = Q (some (.int 0)) σ := (w_iconst (v := 0) dLa_law_1786 rfl).trans (w_zret dLa_law_1787 rfl (Or.inl rfl))
theorem bLa_law_1788 {E : mEn} {d : Nat} {σ : mSt} {Q : mPost} {a3 : Int32} : WP E d mLa_law 1788 [.ref 1000, .ref 0, .ref 166, .int a3] [] σ Q = WP E d mLa_law 18 [.ref 1000, .ref 0, .ref 166, .int (a3 + (nI 6))] [] σ Q := (w_iinc (v := (nI 6)) (ls' := [.ref 1000, .ref 0, .ref 166, .int (a3 + (nI 6))]) dLa_law_1788 rfl rfl rfl).trans (w_goto (t := 18) dLa_law_1791 (by decide))
theorem bLa_law_1794 {E : mEn} {d : Nat} {σ : mSt} {Q : mPost} {a3 : Int32} : WP E d mLa_law 1794 [.ref 1000, .ref 0, .ref 166, .int a3] [] σ Q = Q (some (.int 1)) σ := (w_iconst (v := 1) dLa_law_1794 rfl).trans (w_zret dLa_law_1795 rfl (Or.inr rfl))
