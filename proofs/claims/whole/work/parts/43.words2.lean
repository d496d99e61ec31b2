set_option maxRecDepth 100000 in
theorem k_329 : Cond.methodLink R_Sq 1 objectInit ∈ ct_G := ct_ofG (List.mem_append_right _ (List.mem_of_getElem? (i := 21) rfl)) (by decide +kernel)
set_option maxRecDepth 100000 in
theorem k_330 : Cond.instanceMethod objectInit ∈ ct_G := ct_ofG (List.mem_append_right _ (List.mem_of_getElem? (i := 22) rfl)) (by decide +kernel)
set_option maxRecDepth 100000 in
theorem k_331 : Cond.code objectInit ⟨#[0xb1]⟩ 1 none ∈ ct_G := ct_ofG (List.mem_append_right _ (List.mem_of_getElem? (i := 23) rfl)) (by decide +kernel)
set_option maxRecDepth 100000 in
theorem k_332 : Cond.arrayClass .int ∈ ct_G := ct_ofG (List.mem_append_right _ (List.mem_of_getElem? (i := 47) rfl)) (by decide +kernel)
set_option maxRecDepth 100000 in
theorem k_333 : Cond.classLink R_Sq 16 R_Hull ∈ ct_G := ct_ofG (List.mem_append_right _ (List.mem_of_getElem? (i := 24) rfl)) (by decide +kernel)
set_option maxRecDepth 100000 in
theorem k_334 : Cond.instantiable R_Hull 4 ∈ ct_G := ct_ofG (List.mem_append_right _ (List.mem_of_getElem? (i := 25) rfl)) (by decide +kernel)
set_option maxRecDepth 100000 in
theorem k_335 : Cond.methodLink R_Hull 3 objectInit ∈ ct_G := ct_ofG (List.mem_append_right _ (List.mem_of_getElem? (i := 29) rfl)) (by decide +kernel)
set_option maxRecDepth 100000 in
theorem k_336 : Cond.arrayClass .boolean ∈ ct_G := ct_ofG (List.mem_append_right _ (List.mem_of_getElem? (i := 48) rfl)) (by decide +kernel)
set_option maxRecDepth 100000 in
theorem k_337 : Cond.code y_Hull_init b_Hull_init 1 none ∈ ct_G := ct_ofG (List.mem_append_right _ (List.mem_of_getElem? (i := 28) rfl)) (by decide +kernel)
set_option maxRecDepth 100000 in
theorem k_338 : Cond.instanceMethod y_Hull_init ∈ ct_G := ct_ofG (List.mem_append_right _ (List.mem_of_getElem? (i := 27) rfl)) (by decide +kernel)
set_option maxRecDepth 100000 in
theorem k_339 : Cond.classLink R_Sq 23 R_Pairs ∈ ct_G := ct_ofG (List.mem_append_right _ (List.mem_of_getElem? (i := 49) rfl)) (by decide +kernel)
set_option maxRecDepth 100000 in
theorem k_340 : Cond.instantiable R_Pairs 9 ∈ ct_G := ct_ofG (List.mem_append_right _ (List.mem_of_getElem? (i := 50) rfl)) (by decide +kernel)
set_option maxRecDepth 100000 in
theorem k_341 : Cond.methodLink R_Pairs 3 objectInit ∈ ct_G := ct_ofG (List.mem_append_right _ (List.mem_of_getElem? (i := 54) rfl)) (by decide +kernel)
set_option maxRecDepth 100000 in
theorem k_342 : Cond.code y_Pairs_init b_Pairs_init 1 none ∈ ct_G := ct_ofG (List.mem_append_right _ (List.mem_of_getElem? (i := 53) rfl)) (by decide +kernel)
set_option maxRecDepth 100000 in
theorem k_343 : Cond.instanceMethod y_Pairs_init ∈ ct_G := ct_ofG (List.mem_append_right _ (List.mem_of_getElem? (i := 52) rfl)) (by decide +kernel)
set_option maxRecDepth 100000 in
theorem k_344 : Cond.methodLink R_Sq 25 y_Pairs_init ∈ ct_G := ct_ofG (List.mem_append_right _ (List.mem_of_getElem? (i := 51) rfl)) (by decide +kernel)
set_option maxRecDepth 100000 in
theorem k_345 : Cond.classLink R_Sq 30 R_Steps ∈ ct_G := ct_ofG (List.mem_append_right _ (List.mem_of_getElem? (i := 95) rfl)) (by decide +kernel)
set_option maxRecDepth 100000 in
theorem k_346 : Cond.instantiable R_Steps 3 ∈ ct_G := ct_ofG (List.mem_append_right _ (List.mem_of_getElem? (i := 96) rfl)) (by decide +kernel)
set_option maxRecDepth 100000 in
theorem k_347 : Cond.methodLink R_Steps 3 objectInit ∈ ct_G := ct_ofG (List.mem_append_right _ (List.mem_of_getElem? (i := 100) rfl)) (by decide +kernel)
set_option maxRecDepth 100000 in
theorem k_348 : Cond.arrayClass .long ∈ ct_G := ct_ofG (List.mem_append_right _ (List.mem_of_getElem? (i := 112) rfl)) (by decide +kernel)
set_option maxRecDepth 100000 in
theorem k_349 : Cond.code y_Steps_init b_Steps_init 1 none ∈ ct_G := ct_ofG (List.mem_append_right _ (List.mem_of_getElem? (i := 99) rfl)) (by decide +kernel)
set_option maxRecDepth 100000 in
theorem k_350 : Cond.instanceMethod y_Steps_init ∈ ct_G := ct_ofG (List.mem_append_right _ (List.mem_of_getElem? (i := 98) rfl)) (by decide +kernel)
set_option maxRecDepth 100000 in
theorem k_351 : Cond.classLink R_Sq 37 R_Search ∈ ct_G := ct_ofG (List.mem_append_right _ (List.mem_of_getElem? (i := 113) rfl)) (by decide +kernel)
set_option maxRecDepth 100000 in
theorem k_352 : Cond.instantiable R_Search 5 ∈ ct_G := ct_ofG (List.mem_append_right _ (List.mem_of_getElem? (i := 114) rfl)) (by decide +kernel)
set_option maxRecDepth 100000 in
theorem k_353 : Cond.methodLink R_Search 3 objectInit ∈ ct_G := ct_ofG (List.mem_append_right _ (List.mem_of_getElem? (i := 118) rfl)) (by decide +kernel)
set_option maxRecDepth 100000 in
theorem k_354 : Cond.classLink R_Search 24 R_Steps ∈ ct_G := ct_ofG (List.mem_append_right _ (List.mem_of_getElem? (i := 119) rfl)) (by decide +kernel)
set_option maxRecDepth 100000 in
theorem k_355 : Cond.code y_Search_init b_Search_init 1 none ∈ ct_G := ct_ofG (List.mem_append_right _ (List.mem_of_getElem? (i := 117) rfl)) (by decide +kernel)
set_option maxRecDepth 100000 in
theorem k_356 : Cond.instanceMethod y_Search_init ∈ ct_G := ct_ofG (List.mem_append_right _ (List.mem_of_getElem? (i := 116) rfl)) (by decide +kernel)
set_option maxRecDepth 100000 in
theorem k_357 : Cond.methodLink R_Mo 1 objectInit ∈ ct_G := ct_ofG (List.mem_append_right _ (List.mem_of_getElem? (i := 538) rfl)) (by decide +kernel)
set_option maxRecDepth 100000 in
theorem k_358 : Cond.code y_Sq_term b_Sq_term 5 (some .boolean) ∈ ct_G := ct_ofG (List.mem_append_right _ (List.mem_of_getElem? (i := 273) rfl)) (by decide +kernel)
set_option maxRecDepth 100000 in
theorem k_359 : Cond.instanceMethod y_Sq_term ∈ ct_G := ct_ofG (List.mem_append_right _ (List.mem_of_getElem? (i := 271) rfl)) (by decide +kernel)
set_option maxRecDepth 100000 in
theorem k_360 : Cond.selects R_Sq y_Sq_term y_Sq_term ∈ ct_G := ct_ofG (List.mem_append_right _ (List.mem_of_getElem? (i := 272) rfl)) (by decide +kernel)
set_option maxRecDepth 100000 in
theorem k_361 : Cond.methodLink R_La 7 y_Sq_term ∈ ct_G := ct_ofG (List.mem_append_right _ (List.mem_of_getElem? (i := 270) rfl)) (by decide +kernel)
set_option maxRecDepth 100000 in
theorem k_362 : Cond.classLink R_La 13 "java/lang/IllegalArgumentException" ∈ ct_G := ct_ofG (List.mem_append_right _ (List.mem_of_getElem? (i := 269) rfl)) (by decide +kernel)
set_option maxRecDepth 100000 in
theorem k_363 : Cond.code y_Sq_member b_Sq_member 4 (some .int) ∈ ct_G := ct_ofG (List.mem_append_right _ (List.mem_of_getElem? (i := 354) rfl)) (by decide +kernel)
set_option maxRecDepth 100000 in
theorem k_364 : Cond.instanceMethod y_Sq_member ∈ ct_G := ct_ofG (List.mem_append_right _ (List.mem_of_getElem? (i := 352) rfl)) (by decide +kernel)
set_option maxRecDepth 100000 in
theorem k_365 : Cond.selects R_Sq y_Sq_member y_Sq_member ∈ ct_G := ct_ofG (List.mem_append_right _ (List.mem_of_getElem? (i := 353) rfl)) (by decide +kernel)
set_option maxRecDepth 100000 in
theorem k_366 : Cond.methodLink R_La 15 y_Sq_member ∈ ct_G := ct_ofG (List.mem_append_right _ (List.mem_of_getElem? (i := 351) rfl)) (by decide +kernel)
set_option maxRecDepth 100000 in
theorem k_367 : Cond.classLink R_La 19 "java/lang/IndexOutOfBoundsException" ∈ ct_G := ct_ofG (List.mem_append_right _ (List.mem_of_getElem? (i := 350) rfl)) (by decide +kernel)
set_option maxRecDepth 100000 in
theorem k_368 : Cond.code y_Sq_put b_Sq_put 5 (some .boolean) ∈ ct_G := ct_ofG (List.mem_append_right _ (List.mem_of_getElem? (i := 384) rfl)) (by decide +kernel)
set_option maxRecDepth 100000 in
theorem k_369 : Cond.instanceMethod y_Sq_put ∈ ct_G := ct_ofG (List.mem_append_right _ (List.mem_of_getElem? (i := 382) rfl)) (by decide +kernel)
set_option maxRecDepth 100000 in
theorem k_370 : Cond.selects R_Sq y_Sq_put y_Sq_put ∈ ct_G := ct_ofG (List.mem_append_right _ (List.mem_of_getElem? (i := 383) rfl)) (by decide +kernel)
set_option maxRecDepth 100000 in
theorem k_371 : Cond.methodLink R_La 21 y_Sq_put ∈ ct_G := ct_ofG (List.mem_append_right _ (List.mem_of_getElem? (i := 381) rfl)) (by decide +kernel)
set_option maxRecDepth 100000 in
theorem k_372 : Cond.code y_Sq_at b_Sq_at 3 (some .int) ∈ ct_G := ct_ofG (List.mem_append_right _ (List.mem_of_getElem? (i := 393) rfl)) (by decide +kernel)
set_option maxRecDepth 100000 in
theorem k_373 : Cond.instanceMethod y_Sq_at ∈ ct_G := ct_ofG (List.mem_append_right _ (List.mem_of_getElem? (i := 391) rfl)) (by decide +kernel)
set_option maxRecDepth 100000 in
theorem k_374 : Cond.selects R_Sq y_Sq_at y_Sq_at ∈ ct_G := ct_ofG (List.mem_append_right _ (List.mem_of_getElem? (i := 392) rfl)) (by decide +kernel)
set_option maxRecDepth 100000 in
theorem k_375 : Cond.methodLink R_La 24 y_Sq_at ∈ ct_G := ct_ofG (List.mem_append_right _ (List.mem_of_getElem? (i := 390) rfl)) (by decide +kernel)
set_option maxRecDepth 100000 in
theorem k_376 : Cond.code y_Sq_squares b_Sq_squares 1 (some .int) ∈ ct_G := ct_ofG (List.mem_append_right _ (List.mem_of_getElem? (i := 401) rfl)) (by decide +kernel)
set_option maxRecDepth 100000 in
theorem k_377 : Cond.instanceMethod y_Sq_squares ∈ ct_G := ct_ofG (List.mem_append_right _ (List.mem_of_getElem? (i := 399) rfl)) (by decide +kernel)
set_option maxRecDepth 100000 in
theorem k_378 : Cond.selects R_Sq y_Sq_squares y_Sq_squares ∈ ct_G := ct_ofG (List.mem_append_right _ (List.mem_of_getElem? (i := 400) rfl)) (by decide +kernel)
set_option maxRecDepth 100000 in
theorem k_379 : Cond.methodLink R_La 27 y_Sq_squares ∈ ct_G := ct_ofG (List.mem_append_right _ (List.mem_of_getElem? (i := 398) rfl)) (by decide +kernel)
set_option maxRecDepth 100000 in
theorem k_380 : Cond.classLink R_La 31 "java/lang/IllegalStateException" ∈ ct_G := ct_ofG (List.mem_append_right _ (List.mem_of_getElem? (i := 397) rfl)) (by decide +kernel)
set_option maxRecDepth 100000 in
theorem k_381 : Cond.code y_Sq_weight b_Sq_weight 3 (some .long) ∈ ct_G := ct_ofG (List.mem_append_right _ (List.mem_of_getElem? (i := 424) rfl)) (by decide +kernel)
set_option maxRecDepth 100000 in
theorem k_382 : Cond.instanceMethod y_Sq_weight ∈ ct_G := ct_ofG (List.mem_append_right _ (List.mem_of_getElem? (i := 422) rfl)) (by decide +kernel)
set_option maxRecDepth 100000 in
theorem k_383 : Cond.selects R_Sq y_Sq_weight y_Sq_weight ∈ ct_G := ct_ofG (List.mem_append_right _ (List.mem_of_getElem? (i := 423) rfl)) (by decide +kernel)
set_option maxRecDepth 100000 in
theorem k_384 : Cond.methodLink R_La 33 y_Sq_weight ∈ ct_G := ct_ofG (List.mem_append_right _ (List.mem_of_getElem? (i := 421) rfl)) (by decide +kernel)
set_option maxRecDepth 100000 in
theorem k_385 : Cond.code y_Sq_row b_Sq_row 4 (some .long) ∈ ct_G := ct_ofG (List.mem_append_right _ (List.mem_of_getElem? (i := 465) rfl)) (by decide +kernel)
set_option maxRecDepth 100000 in
theorem k_386 : Cond.instanceMethod y_Sq_row ∈ ct_G := ct_ofG (List.mem_append_right _ (List.mem_of_getElem? (i := 463) rfl)) (by decide +kernel)
set_option maxRecDepth 100000 in
theorem k_387 : Cond.selects R_Sq y_Sq_row y_Sq_row ∈ ct_G := ct_ofG (List.mem_append_right _ (List.mem_of_getElem? (i := 464) rfl)) (by decide +kernel)
set_option maxRecDepth 100000 in
theorem k_388 : Cond.methodLink R_La 37 y_Sq_row ∈ ct_G := ct_ofG (List.mem_append_right _ (List.mem_of_getElem? (i := 462) rfl)) (by decide +kernel)
set_option maxRecDepth 100000 in
theorem k_389 : Cond.code y_Sq_find b_Sq_find 3 (some .int) ∈ ct_G := ct_ofG (List.mem_append_right _ (List.mem_of_getElem? (i := 481) rfl)) (by decide +kernel)
set_option maxRecDepth 100000 in
theorem k_390 : Cond.instanceMethod y_Sq_find ∈ ct_G := ct_ofG (List.mem_append_right _ (List.mem_of_getElem? (i := 479) rfl)) (by decide +kernel)
set_option maxRecDepth 100000 in
theorem k_391 : Cond.selects R_Sq y_Sq_find y_Sq_find ∈ ct_G := ct_ofG (List.mem_append_right _ (List.mem_of_getElem? (i := 480) rfl)) (by decide +kernel)
set_option maxRecDepth 100000 in
theorem k_392 : Cond.methodLink R_La 41 y_Sq_find ∈ ct_G := ct_ofG (List.mem_append_right _ (List.mem_of_getElem? (i := 478) rfl)) (by decide +kernel)
set_option maxRecDepth 100000 in
theorem k_393 : Cond.code y_Sq_value b_Sq_value 6 (some .long) ∈ ct_G := ct_ofG (List.mem_append_right _ (List.mem_of_getElem? (i := 528) rfl)) (by decide +kernel)
set_option maxRecDepth 100000 in
theorem k_394 : Cond.instanceMethod y_Sq_value ∈ ct_G := ct_ofG (List.mem_append_right _ (List.mem_of_getElem? (i := 526) rfl)) (by decide +kernel)
set_option maxRecDepth 100000 in
theorem k_395 : Cond.selects R_Sq y_Sq_value y_Sq_value ∈ ct_G := ct_ofG (List.mem_append_right _ (List.mem_of_getElem? (i := 527) rfl)) (by decide +kernel)
set_option maxRecDepth 100000 in
theorem k_396 : Cond.methodLink R_La 45 y_Sq_value ∈ ct_G := ct_ofG (List.mem_append_right _ (List.mem_of_getElem? (i := 525) rfl)) (by decide +kernel)
set_option maxRecDepth 100000 in
theorem n_23 : Cond.methodLinkNest R_Sq 18 y_Hull_init "SquareSums" ∈ ct_N := ct_ofN (List.mem_append_right _ (List.mem_of_getElem? (i := 26) rfl)) rfl
set_option maxRecDepth 100000 in
theorem n_24 : Cond.methodLinkNest R_Sq 32 y_Steps_init "SquareSums" ∈ ct_N := ct_ofN (List.mem_append_right _ (List.mem_of_getElem? (i := 97) rfl)) rfl
set_option maxRecDepth 100000 in
theorem n_25 : Cond.methodLinkNest R_Search 26 y_Steps_init "SquareSums" ∈ ct_N := ct_ofN (List.mem_append_right _ (List.mem_of_getElem? (i := 120) rfl)) rfl
set_option maxRecDepth 100000 in
theorem n_26 : Cond.methodLinkNest R_Sq 39 y_Search_init "SquareSums" ∈ ct_N := ct_ofN (List.mem_append_right _ (List.mem_of_getElem? (i := 115) rfl)) rfl
