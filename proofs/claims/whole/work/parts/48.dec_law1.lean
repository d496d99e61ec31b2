theorem d_La_law_261 : decode b_La_law 261 = .ok (.iload 5, 2) := by decide +kernel
theorem d_La_law_263 : decode b_La_law 263 = .ok (.if_icmp .eq 5, 3) := by decide +kernel
theorem d_La_law_266 : decode b_La_law 266 = .ok (.iconst 0, 1) := by decide +kernel
theorem d_La_law_267 : decode b_La_law 267 = .ok (.ireturn, 1) := by decide +kernel
theorem d_La_law_268 : decode b_La_law 268 = .ok (.iload 5, 2) := by decide +kernel
theorem d_La_law_270 : decode b_La_law 270 = .ok (.ifCond .ne 15, 3) := by decide +kernel
theorem d_La_law_273 : decode b_La_law 273 = .ok (.aload_n 3, 1) := by decide +kernel
theorem d_La_law_274 : decode b_La_law 274 = .ok (.iconst 0, 1) := by decide +kernel
theorem d_La_law_275 : decode b_La_law 275 = .ok (.laload, 1) := by decide +kernel
theorem d_La_law_276 : decode b_La_law 276 = .ok (.iload 6, 2) := by decide +kernel
theorem d_La_law_278 : decode b_La_law 278 = .ok (.i2l, 1) := by decide +kernel
theorem d_La_law_279 : decode b_La_law 279 = .ok (.lcmp, 1) := by decide +kernel
theorem d_La_law_280 : decode b_La_law 280 = .ok (.ifCond .eq 5, 3) := by decide +kernel
theorem d_La_law_283 : decode b_La_law 283 = .ok (.iconst 0, 1) := by decide +kernel
theorem d_La_law_284 : decode b_La_law 284 = .ok (.ireturn, 1) := by decide +kernel
theorem d_La_law_285 : decode b_La_law 285 = .ok (.goto 533, 3) := by decide +kernel
theorem d_La_law_288 : decode b_La_law 288 = .ok (.aload_n 1, 1) := by decide +kernel
theorem d_La_law_289 : decode b_La_law 289 = .ok (.aload_n 0, 1) := by decide +kernel
theorem d_La_law_290 : decode b_La_law 290 = .ok (.iload 4, 2) := by decide +kernel
theorem d_La_law_292 : decode b_La_law 292 = .ok (.iconst 1, 1) := by decide +kernel
theorem d_La_law_293 : decode b_La_law 293 = .ok (.iadd, 1) := by decide +kernel
theorem d_La_law_294 : decode b_La_law 294 = .ok (.iaload, 1) := by decide +kernel
theorem d_La_law_295 : decode b_La_law 295 = .ok (.aload_n 0, 1) := by decide +kernel
theorem d_La_law_296 : decode b_La_law 296 = .ok (.iload 4, 2) := by decide +kernel
theorem d_La_law_298 : decode b_La_law 298 = .ok (.iconst 2, 1) := by decide +kernel
theorem d_La_law_299 : decode b_La_law 299 = .ok (.iadd, 1) := by decide +kernel
theorem d_La_law_300 : decode b_La_law 300 = .ok (.iaload, 1) := by decide +kernel
theorem d_La_law_301 : decode b_La_law 301 = .ok (.aload_n 0, 1) := by decide +kernel
theorem d_La_law_302 : decode b_La_law 302 = .ok (.iload 4, 2) := by decide +kernel
theorem d_La_law_304 : decode b_La_law 304 = .ok (.iconst 3, 1) := by decide +kernel
theorem d_La_law_305 : decode b_La_law 305 = .ok (.iadd, 1) := by decide +kernel
theorem d_La_law_306 : decode b_La_law 306 = .ok (.iaload, 1) := by decide +kernel
theorem d_La_law_307 : decode b_La_law 307 = .ok (.aload_n 3, 1) := by decide +kernel
theorem d_La_law_308 : decode b_La_law 308 = .ok (.invokestatic 75, 3) := by decide +kernel
theorem d_La_law_311 : decode b_La_law 311 = .ok (.istore 5, 2) := by decide +kernel
theorem d_La_law_313 : decode b_La_law 313 = .ok (.aload_n 2, 1) := by decide +kernel
theorem d_La_law_314 : decode b_La_law 314 = .ok (.aload_n 0, 1) := by decide +kernel
theorem d_La_law_315 : decode b_La_law 315 = .ok (.iload 4, 2) := by decide +kernel
theorem d_La_law_317 : decode b_La_law 317 = .ok (.iconst 1, 1) := by decide +kernel
theorem d_La_law_318 : decode b_La_law 318 = .ok (.iadd, 1) := by decide +kernel
theorem d_La_law_319 : decode b_La_law 319 = .ok (.iaload, 1) := by decide +kernel
theorem d_La_law_320 : decode b_La_law 320 = .ok (.aload_n 0, 1) := by decide +kernel
theorem d_La_law_321 : decode b_La_law 321 = .ok (.iload 4, 2) := by decide +kernel
theorem d_La_law_323 : decode b_La_law 323 = .ok (.iconst 2, 1) := by decide +kernel
theorem d_La_law_324 : decode b_La_law 324 = .ok (.iadd, 1) := by decide +kernel
theorem d_La_law_325 : decode b_La_law 325 = .ok (.iaload, 1) := by decide +kernel
theorem d_La_law_326 : decode b_La_law 326 = .ok (.aload_n 0, 1) := by decide +kernel
theorem d_La_law_327 : decode b_La_law 327 = .ok (.iload 4, 2) := by decide +kernel
theorem d_La_law_329 : decode b_La_law 329 = .ok (.iconst 3, 1) := by decide +kernel
theorem d_La_law_330 : decode b_La_law 330 = .ok (.iadd, 1) := by decide +kernel
theorem d_La_law_331 : decode b_La_law 331 = .ok (.iaload, 1) := by decide +kernel
theorem d_La_law_332 : decode b_La_law 332 = .ok (.invokevirtual 77, 3) := by decide +kernel
theorem d_La_law_335 : decode b_La_law 335 = .ok (.istore 6, 2) := by decide +kernel
theorem d_La_law_337 : decode b_La_law 337 = .ok (.aload_n 2, 1) := by decide +kernel
theorem d_La_law_338 : decode b_La_law 338 = .ok (.invokevirtual 64, 3) := by decide +kernel
theorem d_La_law_341 : decode b_La_law 341 = .ok (.iload 5, 2) := by decide +kernel
theorem d_La_law_343 : decode b_La_law 343 = .ok (.if_icmp .eq 5, 3) := by decide +kernel
theorem d_La_law_346 : decode b_La_law 346 = .ok (.iconst 0, 1) := by decide +kernel
theorem d_La_law_347 : decode b_La_law 347 = .ok (.ireturn, 1) := by decide +kernel
theorem d_La_law_348 : decode b_La_law 348 = .ok (.iload 5, 2) := by decide +kernel
theorem d_La_law_350 : decode b_La_law 350 = .ok (.ifCond .ne 22, 3) := by decide +kernel
theorem d_La_law_353 : decode b_La_law 353 = .ok (.aload_n 3, 1) := by decide +kernel
theorem d_La_law_354 : decode b_La_law 354 = .ok (.iconst 0, 1) := by decide +kernel
theorem d_La_law_355 : decode b_La_law 355 = .ok (.laload, 1) := by decide +kernel
theorem d_La_law_356 : decode b_La_law 356 = .ok (.iload 6, 2) := by decide +kernel
theorem d_La_law_358 : decode b_La_law 358 = .ok (.ifCond .eq 7, 3) := by decide +kernel
theorem d_La_law_361 : decode b_La_law 361 = .ok (.lconst 1, 1) := by decide +kernel
theorem d_La_law_362 : decode b_La_law 362 = .ok (.goto 4, 3) := by decide +kernel
theorem d_La_law_365 : decode b_La_law 365 = .ok (.lconst 0, 1) := by decide +kernel
theorem d_La_law_366 : decode b_La_law 366 = .ok (.lcmp, 1) := by decide +kernel
theorem d_La_law_367 : decode b_La_law 367 = .ok (.ifCond .eq 5, 3) := by decide +kernel
theorem d_La_law_370 : decode b_La_law 370 = .ok (.iconst 0, 1) := by decide +kernel
theorem d_La_law_371 : decode b_La_law 371 = .ok (.ireturn, 1) := by decide +kernel
theorem d_La_law_372 : decode b_La_law 372 = .ok (.goto 446, 3) := by decide +kernel
theorem d_La_law_375 : decode b_La_law 375 = .ok (.aload_n 1, 1) := by decide +kernel
theorem d_La_law_376 : decode b_La_law 376 = .ok (.aload_n 0, 1) := by decide +kernel
theorem d_La_law_377 : decode b_La_law 377 = .ok (.iload 4, 2) := by decide +kernel
theorem d_La_law_379 : decode b_La_law 379 = .ok (.iconst 1, 1) := by decide +kernel
theorem d_La_law_380 : decode b_La_law 380 = .ok (.iadd, 1) := by decide +kernel
theorem d_La_law_381 : decode b_La_law 381 = .ok (.iaload, 1) := by decide +kernel
theorem d_La_law_382 : decode b_La_law 382 = .ok (.aload_n 0, 1) := by decide +kernel
theorem d_La_law_383 : decode b_La_law 383 = .ok (.iload 4, 2) := by decide +kernel
theorem d_La_law_385 : decode b_La_law 385 = .ok (.iconst 2, 1) := by decide +kernel
theorem d_La_law_386 : decode b_La_law 386 = .ok (.iadd, 1) := by decide +kernel
theorem d_La_law_387 : decode b_La_law 387 = .ok (.iaload, 1) := by decide +kernel
theorem d_La_law_388 : decode b_La_law 388 = .ok (.aload_n 3, 1) := by decide +kernel
theorem d_La_law_389 : decode b_La_law 389 = .ok (.invokestatic 78, 3) := by decide +kernel
theorem d_La_law_392 : decode b_La_law 392 = .ok (.istore 5, 2) := by decide +kernel
theorem d_La_law_394 : decode b_La_law 394 = .ok (.aload_n 2, 1) := by decide +kernel
theorem d_La_law_395 : decode b_La_law 395 = .ok (.aload_n 0, 1) := by decide +kernel
theorem d_La_law_396 : decode b_La_law 396 = .ok (.iload 4, 2) := by decide +kernel
theorem d_La_law_398 : decode b_La_law 398 = .ok (.iconst 1, 1) := by decide +kernel
theorem d_La_law_399 : decode b_La_law 399 = .ok (.iadd, 1) := by decide +kernel
theorem d_La_law_400 : decode b_La_law 400 = .ok (.iaload, 1) := by decide +kernel
theorem d_La_law_401 : decode b_La_law 401 = .ok (.aload_n 0, 1) := by decide +kernel
theorem d_La_law_402 : decode b_La_law 402 = .ok (.iload 4, 2) := by decide +kernel
theorem d_La_law_404 : decode b_La_law 404 = .ok (.iconst 2, 1) := by decide +kernel
theorem d_La_law_405 : decode b_La_law 405 = .ok (.iadd, 1) := by decide +kernel
theorem d_La_law_406 : decode b_La_law 406 = .ok (.iaload, 1) := by decide +kernel
theorem d_La_law_407 : decode b_La_law 407 = .ok (.invokevirtual 80, 3) := by decide +kernel
theorem d_La_law_410 : decode b_La_law 410 = .ok (.istore 6, 2) := by decide +kernel
theorem d_La_law_412 : decode b_La_law 412 = .ok (.aload_n 2, 1) := by decide +kernel
theorem d_La_law_413 : decode b_La_law 413 = .ok (.invokevirtual 64, 3) := by decide +kernel
theorem d_La_law_416 : decode b_La_law 416 = .ok (.iload 5, 2) := by decide +kernel
theorem d_La_law_418 : decode b_La_law 418 = .ok (.if_icmp .eq 5, 3) := by decide +kernel
theorem d_La_law_421 : decode b_La_law 421 = .ok (.iconst 0, 1) := by decide +kernel
theorem d_La_law_422 : decode b_La_law 422 = .ok (.ireturn, 1) := by decide +kernel
theorem d_La_law_423 : decode b_La_law 423 = .ok (.iload 5, 2) := by decide +kernel
theorem d_La_law_425 : decode b_La_law 425 = .ok (.ifCond .ne 15, 3) := by decide +kernel
theorem d_La_law_428 : decode b_La_law 428 = .ok (.aload_n 3, 1) := by decide +kernel
theorem d_La_law_429 : decode b_La_law 429 = .ok (.iconst 0, 1) := by decide +kernel
theorem d_La_law_430 : decode b_La_law 430 = .ok (.laload, 1) := by decide +kernel
theorem d_La_law_431 : decode b_La_law 431 = .ok (.iload 6, 2) := by decide +kernel
theorem d_La_law_433 : decode b_La_law 433 = .ok (.i2l, 1) := by decide +kernel
theorem d_La_law_434 : decode b_La_law 434 = .ok (.lcmp, 1) := by decide +kernel
theorem d_La_law_435 : decode b_La_law 435 = .ok (.ifCond .eq 5, 3) := by decide +kernel
theorem d_La_law_438 : decode b_La_law 438 = .ok (.iconst 0, 1) := by decide +kernel
theorem d_La_law_439 : decode b_La_law 439 = .ok (.ireturn, 1) := by decide +kernel
theorem d_La_law_440 : decode b_La_law 440 = .ok (.goto 378, 3) := by decide +kernel
theorem d_La_law_443 : decode b_La_law 443 = .ok (.aload_n 1, 1) := by decide +kernel
theorem d_La_law_444 : decode b_La_law 444 = .ok (.invokevirtual 81, 3) := by decide +kernel
theorem d_La_law_447 : decode b_La_law 447 = .ok (.aload_n 2, 1) := by decide +kernel
theorem d_La_law_448 : decode b_La_law 448 = .ok (.invokevirtual 84, 3) := by decide +kernel
theorem d_La_law_451 : decode b_La_law 451 = .ok (.if_icmp .eq 367, 3) := by decide +kernel
theorem d_La_law_454 : decode b_La_law 454 = .ok (.iconst 0, 1) := by decide +kernel
