set_option maxRecDepth 100000 in
theorem k_397 : Cond.classLink R_La 8 R_Sq ∈ ct_G := ct_ofG (List.mem_append_right _ (List.mem_of_getElem? (i := 16) rfl)) (by decide +kernel)
set_option maxRecDepth 100000 in
theorem k_398 : Cond.instantiable R_Sq 8 ∈ ct_G := ct_ofG (List.mem_append_right _ (List.mem_of_getElem? (i := 17) rfl)) (by decide +kernel)
set_option maxRecDepth 100000 in
theorem k_399 : Cond.methodLink R_La 48 y_La_cell ∈ ct_G := ct_ofG (List.mem_append_right _ (List.mem_of_getElem? (i := 263) rfl)) (by decide +kernel)
set_option maxRecDepth 100000 in
theorem k_400 : Cond.static y_La_cell ∈ ct_G := ct_ofG (List.mem_append_right _ (List.mem_of_getElem? (i := 264) rfl)) (by decide +kernel)
set_option maxRecDepth 100000 in
theorem k_401 : Cond.initialized R_La ∈ ct_G := ct_ofG (List.mem_append_right _ (List.mem_of_getElem? (i := 0) rfl)) (by decide +kernel)
set_option maxRecDepth 100000 in
theorem k_402 : Cond.code y_La_cell b_La_cell 2 (some .int) ∈ ct_G := ct_ofG (List.mem_append_right _ (List.mem_of_getElem? (i := 265) rfl)) (by decide +kernel)
set_option maxRecDepth 100000 in
theorem k_403 : Cond.code y_Sq_init b_Sq_init 2 none ∈ ct_G := ct_ofG (List.mem_append_right _ (List.mem_of_getElem? (i := 20) rfl)) (by decide +kernel)
set_option maxRecDepth 100000 in
theorem k_404 : Cond.instanceMethod y_Sq_init ∈ ct_G := ct_ofG (List.mem_append_right _ (List.mem_of_getElem? (i := 19) rfl)) (by decide +kernel)
set_option maxRecDepth 100000 in
theorem k_405 : Cond.methodLink R_La 54 y_Sq_init ∈ ct_G := ct_ofG (List.mem_append_right _ (List.mem_of_getElem? (i := 18) rfl)) (by decide +kernel)
set_option maxRecDepth 100000 in
theorem k_406 : Cond.classLink R_La 57 R_Mo ∈ ct_G := ct_ofG (List.mem_append_right _ (List.mem_of_getElem? (i := 533) rfl)) (by decide +kernel)
set_option maxRecDepth 100000 in
theorem k_407 : Cond.instantiable R_Mo 26 ∈ ct_G := ct_ofG (List.mem_append_right _ (List.mem_of_getElem? (i := 534) rfl)) (by decide +kernel)
set_option maxRecDepth 100000 in
theorem k_408 : Cond.code y_Mo_init b_Mo_init 4 none ∈ ct_G := ct_ofG (List.mem_append_right _ (List.mem_of_getElem? (i := 537) rfl)) (by decide +kernel)
set_option maxRecDepth 100000 in
theorem k_409 : Cond.instanceMethod y_Mo_init ∈ ct_G := ct_ofG (List.mem_append_right _ (List.mem_of_getElem? (i := 536) rfl)) (by decide +kernel)
set_option maxRecDepth 100000 in
theorem k_410 : Cond.methodLink R_La 59 y_Mo_init ∈ ct_G := ct_ofG (List.mem_append_right _ (List.mem_of_getElem? (i := 535) rfl)) (by decide +kernel)
set_option maxRecDepth 100000 in
theorem k_411 : Cond.codeWith y_La_term b_La_term 6 (some .int) [(0, 19, 22, 13)] ∈ ct_G := ct_ofG (List.mem_append_right _ (List.mem_of_getElem? (i := 268) rfl)) (by decide +kernel)
set_option maxRecDepth 100000 in
theorem k_412 : Cond.methodLink R_La 60 y_La_term ∈ ct_G := ct_ofG (List.mem_append_right _ (List.mem_of_getElem? (i := 266) rfl)) (by decide +kernel)
set_option maxRecDepth 100000 in
theorem k_413 : Cond.static y_La_term ∈ ct_G := ct_ofG (List.mem_append_right _ (List.mem_of_getElem? (i := 267) rfl)) (by decide +kernel)
set_option maxRecDepth 100000 in
theorem k_414 : Cond.code y_Mo_term b_Mo_term 5 (some .boolean) ∈ ct_G := ct_ofG (List.mem_append_right _ (List.mem_of_getElem? (i := 625) rfl)) (by decide +kernel)
set_option maxRecDepth 100000 in
theorem k_415 : Cond.instanceMethod y_Mo_term ∈ ct_G := ct_ofG (List.mem_append_right _ (List.mem_of_getElem? (i := 623) rfl)) (by decide +kernel)
set_option maxRecDepth 100000 in
theorem k_416 : Cond.selects R_Mo y_Mo_term y_Mo_term ∈ ct_G := ct_ofG (List.mem_append_right _ (List.mem_of_getElem? (i := 624) rfl)) (by decide +kernel)
set_option maxRecDepth 100000 in
theorem k_417 : Cond.methodLink R_La 63 y_Mo_term ∈ ct_G := ct_ofG (List.mem_append_right _ (List.mem_of_getElem? (i := 622) rfl)) (by decide +kernel)
set_option maxRecDepth 100000 in
theorem k_418 : Cond.code y_Mo_thrown b_Mo_thrown 1 (some .int) ∈ ct_G := ct_ofG (List.mem_append_right _ (List.mem_of_getElem? (i := 621) rfl)) (by decide +kernel)
set_option maxRecDepth 100000 in
theorem k_419 : Cond.instanceMethod y_Mo_thrown ∈ ct_G := ct_ofG (List.mem_append_right _ (List.mem_of_getElem? (i := 619) rfl)) (by decide +kernel)
set_option maxRecDepth 100000 in
theorem k_420 : Cond.selects R_Mo y_Mo_thrown y_Mo_thrown ∈ ct_G := ct_ofG (List.mem_append_right _ (List.mem_of_getElem? (i := 620) rfl)) (by decide +kernel)
set_option maxRecDepth 100000 in
theorem k_421 : Cond.methodLink R_La 64 y_Mo_thrown ∈ ct_G := ct_ofG (List.mem_append_right _ (List.mem_of_getElem? (i := 618) rfl)) (by decide +kernel)
set_option maxRecDepth 100000 in
theorem k_422 : Cond.code y_Sq_basis b_Sq_basis 1 (some .int) ∈ ct_G := ct_ofG (List.mem_append_right _ (List.mem_of_getElem? (i := 166) rfl)) (by decide +kernel)
set_option maxRecDepth 100000 in
theorem k_423 : Cond.instanceMethod y_Sq_basis ∈ ct_G := ct_ofG (List.mem_append_right _ (List.mem_of_getElem? (i := 164) rfl)) (by decide +kernel)
set_option maxRecDepth 100000 in
theorem k_424 : Cond.selects R_Sq y_Sq_basis y_Sq_basis ∈ ct_G := ct_ofG (List.mem_append_right _ (List.mem_of_getElem? (i := 165) rfl)) (by decide +kernel)
set_option maxRecDepth 100000 in
theorem k_425 : Cond.methodLink R_La 67 y_Sq_basis ∈ ct_G := ct_ofG (List.mem_append_right _ (List.mem_of_getElem? (i := 163) rfl)) (by decide +kernel)
set_option maxRecDepth 100000 in
theorem k_426 : Cond.code y_Mo_basis b_Mo_basis 2 (some .int) ∈ ct_G := ct_ofG (List.mem_append_right _ (List.mem_of_getElem? (i := 669) rfl)) (by decide +kernel)
set_option maxRecDepth 100000 in
theorem k_427 : Cond.instanceMethod y_Mo_basis ∈ ct_G := ct_ofG (List.mem_append_right _ (List.mem_of_getElem? (i := 667) rfl)) (by decide +kernel)
set_option maxRecDepth 100000 in
theorem k_428 : Cond.selects R_Mo y_Mo_basis y_Mo_basis ∈ ct_G := ct_ofG (List.mem_append_right _ (List.mem_of_getElem? (i := 668) rfl)) (by decide +kernel)
set_option maxRecDepth 100000 in
theorem k_429 : Cond.methodLink R_La 70 y_Mo_basis ∈ ct_G := ct_ofG (List.mem_append_right _ (List.mem_of_getElem? (i := 666) rfl)) (by decide +kernel)
set_option maxRecDepth 100000 in
theorem k_430 : Cond.codeWith y_La_member b_La_member 5 (some .int) [(0, 10, 13, 19), (0, 10, 17, 13)] ∈ ct_G := ct_ofG (List.mem_append_right _ (List.mem_of_getElem? (i := 349) rfl)) (by decide +kernel)
set_option maxRecDepth 100000 in
theorem k_431 : Cond.methodLink R_La 71 y_La_member ∈ ct_G := ct_ofG (List.mem_append_right _ (List.mem_of_getElem? (i := 347) rfl)) (by decide +kernel)
set_option maxRecDepth 100000 in
theorem k_432 : Cond.static y_La_member ∈ ct_G := ct_ofG (List.mem_append_right _ (List.mem_of_getElem? (i := 348) rfl)) (by decide +kernel)
set_option maxRecDepth 100000 in
theorem k_433 : Cond.code y_Mo_member b_Mo_member 3 (some .int) ∈ ct_G := ct_ofG (List.mem_append_right _ (List.mem_of_getElem? (i := 677) rfl)) (by decide +kernel)
set_option maxRecDepth 100000 in
theorem k_434 : Cond.instanceMethod y_Mo_member ∈ ct_G := ct_ofG (List.mem_append_right _ (List.mem_of_getElem? (i := 675) rfl)) (by decide +kernel)
set_option maxRecDepth 100000 in
theorem k_435 : Cond.selects R_Mo y_Mo_member y_Mo_member ∈ ct_G := ct_ofG (List.mem_append_right _ (List.mem_of_getElem? (i := 676) rfl)) (by decide +kernel)
set_option maxRecDepth 100000 in
theorem k_436 : Cond.methodLink R_La 74 y_Mo_member ∈ ct_G := ct_ofG (List.mem_append_right _ (List.mem_of_getElem? (i := 674) rfl)) (by decide +kernel)
set_option maxRecDepth 100000 in
theorem k_437 : Cond.codeWith y_La_put b_La_put 6 (some .int) [(0, 19, 22, 19), (0, 19, 26, 13)] ∈ ct_G := ct_ofG (List.mem_append_right _ (List.mem_of_getElem? (i := 380) rfl)) (by decide +kernel)
set_option maxRecDepth 100000 in
theorem k_438 : Cond.methodLink R_La 75 y_La_put ∈ ct_G := ct_ofG (List.mem_append_right _ (List.mem_of_getElem? (i := 378) rfl)) (by decide +kernel)
set_option maxRecDepth 100000 in
theorem k_439 : Cond.static y_La_put ∈ ct_G := ct_ofG (List.mem_append_right _ (List.mem_of_getElem? (i := 379) rfl)) (by decide +kernel)
set_option maxRecDepth 100000 in
theorem k_440 : Cond.code y_Mo_put b_Mo_put 4 (some .boolean) ∈ ct_G := ct_ofG (List.mem_append_right _ (List.mem_of_getElem? (i := 699) rfl)) (by decide +kernel)
set_option maxRecDepth 100000 in
theorem k_441 : Cond.instanceMethod y_Mo_put ∈ ct_G := ct_ofG (List.mem_append_right _ (List.mem_of_getElem? (i := 697) rfl)) (by decide +kernel)
set_option maxRecDepth 100000 in
theorem k_442 : Cond.selects R_Mo y_Mo_put y_Mo_put ∈ ct_G := ct_ofG (List.mem_append_right _ (List.mem_of_getElem? (i := 698) rfl)) (by decide +kernel)
set_option maxRecDepth 100000 in
theorem k_443 : Cond.methodLink R_La 77 y_Mo_put ∈ ct_G := ct_ofG (List.mem_append_right _ (List.mem_of_getElem? (i := 696) rfl)) (by decide +kernel)
set_option maxRecDepth 100000 in
theorem k_444 : Cond.codeWith y_La_at b_La_at 5 (some .int) [(0, 10, 13, 19)] ∈ ct_G := ct_ofG (List.mem_append_right _ (List.mem_of_getElem? (i := 389) rfl)) (by decide +kernel)
set_option maxRecDepth 100000 in
theorem k_445 : Cond.methodLink R_La 78 y_La_at ∈ ct_G := ct_ofG (List.mem_append_right _ (List.mem_of_getElem? (i := 387) rfl)) (by decide +kernel)
set_option maxRecDepth 100000 in
theorem k_446 : Cond.static y_La_at ∈ ct_G := ct_ofG (List.mem_append_right _ (List.mem_of_getElem? (i := 388) rfl)) (by decide +kernel)
set_option maxRecDepth 100000 in
theorem k_447 : Cond.code y_Mo_at b_Mo_at 3 (some .int) ∈ ct_G := ct_ofG (List.mem_append_right _ (List.mem_of_getElem? (i := 703) rfl)) (by decide +kernel)
set_option maxRecDepth 100000 in
theorem k_448 : Cond.instanceMethod y_Mo_at ∈ ct_G := ct_ofG (List.mem_append_right _ (List.mem_of_getElem? (i := 701) rfl)) (by decide +kernel)
set_option maxRecDepth 100000 in
theorem k_449 : Cond.selects R_Mo y_Mo_at y_Mo_at ∈ ct_G := ct_ofG (List.mem_append_right _ (List.mem_of_getElem? (i := 702) rfl)) (by decide +kernel)
set_option maxRecDepth 100000 in
theorem k_450 : Cond.methodLink R_La 80 y_Mo_at ∈ ct_G := ct_ofG (List.mem_append_right _ (List.mem_of_getElem? (i := 700) rfl)) (by decide +kernel)
set_option maxRecDepth 100000 in
theorem k_451 : Cond.code y_Sq_check b_Sq_check 1 (some .int) ∈ ct_G := ct_ofG (List.mem_append_right _ (List.mem_of_getElem? (i := 178) rfl)) (by decide +kernel)
set_option maxRecDepth 100000 in
theorem k_452 : Cond.instanceMethod y_Sq_check ∈ ct_G := ct_ofG (List.mem_append_right _ (List.mem_of_getElem? (i := 176) rfl)) (by decide +kernel)
set_option maxRecDepth 100000 in
theorem k_453 : Cond.selects R_Sq y_Sq_check y_Sq_check ∈ ct_G := ct_ofG (List.mem_append_right _ (List.mem_of_getElem? (i := 177) rfl)) (by decide +kernel)
set_option maxRecDepth 100000 in
theorem k_454 : Cond.methodLink R_La 81 y_Sq_check ∈ ct_G := ct_ofG (List.mem_append_right _ (List.mem_of_getElem? (i := 175) rfl)) (by decide +kernel)
set_option maxRecDepth 100000 in
theorem k_455 : Cond.code y_Mo_check b_Mo_check 1 (some .int) ∈ ct_G := ct_ofG (List.mem_append_right _ (List.mem_of_getElem? (i := 707) rfl)) (by decide +kernel)
set_option maxRecDepth 100000 in
theorem k_456 : Cond.instanceMethod y_Mo_check ∈ ct_G := ct_ofG (List.mem_append_right _ (List.mem_of_getElem? (i := 705) rfl)) (by decide +kernel)
set_option maxRecDepth 100000 in
theorem k_457 : Cond.selects R_Mo y_Mo_check y_Mo_check ∈ ct_G := ct_ofG (List.mem_append_right _ (List.mem_of_getElem? (i := 706) rfl)) (by decide +kernel)
set_option maxRecDepth 100000 in
theorem k_458 : Cond.methodLink R_La 84 y_Mo_check ∈ ct_G := ct_ofG (List.mem_append_right _ (List.mem_of_getElem? (i := 704) rfl)) (by decide +kernel)
set_option maxRecDepth 100000 in
theorem k_459 : Cond.codeWith y_La_squares b_La_squares 3 (some .int) [(0, 8, 11, 31)] ∈ ct_G := ct_ofG (List.mem_append_right _ (List.mem_of_getElem? (i := 396) rfl)) (by decide +kernel)
set_option maxRecDepth 100000 in
theorem k_460 : Cond.methodLink R_La 85 y_La_squares ∈ ct_G := ct_ofG (List.mem_append_right _ (List.mem_of_getElem? (i := 394) rfl)) (by decide +kernel)
set_option maxRecDepth 100000 in
theorem k_461 : Cond.static y_La_squares ∈ ct_G := ct_ofG (List.mem_append_right _ (List.mem_of_getElem? (i := 395) rfl)) (by decide +kernel)
set_option maxRecDepth 100000 in
theorem k_462 : Cond.code y_Mo_squares b_Mo_squares 1 (some .int) ∈ ct_G := ct_ofG (List.mem_append_right _ (List.mem_of_getElem? (i := 735) rfl)) (by decide +kernel)
set_option maxRecDepth 100000 in
theorem k_463 : Cond.instanceMethod y_Mo_squares ∈ ct_G := ct_ofG (List.mem_append_right _ (List.mem_of_getElem? (i := 733) rfl)) (by decide +kernel)
set_option maxRecDepth 100000 in
theorem k_464 : Cond.selects R_Mo y_Mo_squares y_Mo_squares ∈ ct_G := ct_ofG (List.mem_append_right _ (List.mem_of_getElem? (i := 734) rfl)) (by decide +kernel)
set_option maxRecDepth 100000 in
theorem k_465 : Cond.methodLink R_La 88 y_Mo_squares ∈ ct_G := ct_ofG (List.mem_append_right _ (List.mem_of_getElem? (i := 732) rfl)) (by decide +kernel)
set_option maxRecDepth 100000 in
theorem k_466 : Cond.codeWith y_La_weight b_La_weight 5 (some .int) [(0, 9, 12, 31), (0, 9, 16, 19), (0, 9, 20, 13)] ∈ ct_G := ct_ofG (List.mem_append_right _ (List.mem_of_getElem? (i := 420) rfl)) (by decide +kernel)
set_option maxRecDepth 100000 in
theorem k_467 : Cond.methodLink R_La 89 y_La_weight ∈ ct_G := ct_ofG (List.mem_append_right _ (List.mem_of_getElem? (i := 418) rfl)) (by decide +kernel)
set_option maxRecDepth 100000 in
theorem k_468 : Cond.static y_La_weight ∈ ct_G := ct_ofG (List.mem_append_right _ (List.mem_of_getElem? (i := 419) rfl)) (by decide +kernel)
set_option maxRecDepth 100000 in
theorem k_469 : Cond.code y_Mo_weight b_Mo_weight 3 (some .long) ∈ ct_G := ct_ofG (List.mem_append_right _ (List.mem_of_getElem? (i := 739) rfl)) (by decide +kernel)
set_option maxRecDepth 100000 in
theorem k_470 : Cond.instanceMethod y_Mo_weight ∈ ct_G := ct_ofG (List.mem_append_right _ (List.mem_of_getElem? (i := 737) rfl)) (by decide +kernel)
set_option maxRecDepth 100000 in
theorem k_471 : Cond.selects R_Mo y_Mo_weight y_Mo_weight ∈ ct_G := ct_ofG (List.mem_append_right _ (List.mem_of_getElem? (i := 738) rfl)) (by decide +kernel)
set_option maxRecDepth 100000 in
theorem k_472 : Cond.methodLink R_La 91 y_Mo_weight ∈ ct_G := ct_ofG (List.mem_append_right _ (List.mem_of_getElem? (i := 736) rfl)) (by decide +kernel)
set_option maxRecDepth 100000 in
theorem k_473 : Cond.codeWith y_La_row b_La_row 6 (some .int) [(0, 11, 14, 31), (0, 11, 18, 19), (0, 11, 22, 13)] ∈ ct_G := ct_ofG (List.mem_append_right _ (List.mem_of_getElem? (i := 461) rfl)) (by decide +kernel)
set_option maxRecDepth 100000 in
theorem k_474 : Cond.methodLink R_La 92 y_La_row ∈ ct_G := ct_ofG (List.mem_append_right _ (List.mem_of_getElem? (i := 459) rfl)) (by decide +kernel)
set_option maxRecDepth 100000 in
theorem k_475 : Cond.static y_La_row ∈ ct_G := ct_ofG (List.mem_append_right _ (List.mem_of_getElem? (i := 460) rfl)) (by decide +kernel)
set_option maxRecDepth 100000 in
theorem k_476 : Cond.code y_Mo_row b_Mo_row 4 (some .long) ∈ ct_G := ct_ofG (List.mem_append_right _ (List.mem_of_getElem? (i := 747) rfl)) (by decide +kernel)
set_option maxRecDepth 100000 in
theorem k_477 : Cond.instanceMethod y_Mo_row ∈ ct_G := ct_ofG (List.mem_append_right _ (List.mem_of_getElem? (i := 745) rfl)) (by decide +kernel)
set_option maxRecDepth 100000 in
theorem k_478 : Cond.selects R_Mo y_Mo_row y_Mo_row ∈ ct_G := ct_ofG (List.mem_append_right _ (List.mem_of_getElem? (i := 746) rfl)) (by decide +kernel)
set_option maxRecDepth 100000 in
theorem k_479 : Cond.methodLink R_La 94 y_Mo_row ∈ ct_G := ct_ofG (List.mem_append_right _ (List.mem_of_getElem? (i := 744) rfl)) (by decide +kernel)
set_option maxRecDepth 100000 in
theorem k_480 : Cond.code y_Sq_free b_Sq_free 1 (some .int) ∈ ct_G := ct_ofG (List.mem_append_right _ (List.mem_of_getElem? (i := 204) rfl)) (by decide +kernel)
set_option maxRecDepth 100000 in
theorem k_481 : Cond.instanceMethod y_Sq_free ∈ ct_G := ct_ofG (List.mem_append_right _ (List.mem_of_getElem? (i := 202) rfl)) (by decide +kernel)
set_option maxRecDepth 100000 in
theorem k_482 : Cond.selects R_Sq y_Sq_free y_Sq_free ∈ ct_G := ct_ofG (List.mem_append_right _ (List.mem_of_getElem? (i := 203) rfl)) (by decide +kernel)
set_option maxRecDepth 100000 in
theorem k_483 : Cond.methodLink R_La 95 y_Sq_free ∈ ct_G := ct_ofG (List.mem_append_right _ (List.mem_of_getElem? (i := 201) rfl)) (by decide +kernel)
set_option maxRecDepth 100000 in
theorem k_484 : Cond.code y_Mo_free b_Mo_free 1 (some .int) ∈ ct_G := ct_ofG (List.mem_append_right _ (List.mem_of_getElem? (i := 751) rfl)) (by decide +kernel)
set_option maxRecDepth 100000 in
theorem k_485 : Cond.instanceMethod y_Mo_free ∈ ct_G := ct_ofG (List.mem_append_right _ (List.mem_of_getElem? (i := 749) rfl)) (by decide +kernel)
set_option maxRecDepth 100000 in
theorem k_486 : Cond.selects R_Mo y_Mo_free y_Mo_free ∈ ct_G := ct_ofG (List.mem_append_right _ (List.mem_of_getElem? (i := 750) rfl)) (by decide +kernel)
set_option maxRecDepth 100000 in
theorem k_487 : Cond.methodLink R_La 98 y_Mo_free ∈ ct_G := ct_ofG (List.mem_append_right _ (List.mem_of_getElem? (i := 748) rfl)) (by decide +kernel)
set_option maxRecDepth 100000 in
theorem k_488 : Cond.codeWith y_La_find b_La_find 4 (some .int) [(0, 9, 12, 13)] ∈ ct_G := ct_ofG (List.mem_append_right _ (List.mem_of_getElem? (i := 477) rfl)) (by decide +kernel)
set_option maxRecDepth 100000 in
theorem k_489 : Cond.methodLink R_La 99 y_La_find ∈ ct_G := ct_ofG (List.mem_append_right _ (List.mem_of_getElem? (i := 475) rfl)) (by decide +kernel)
set_option maxRecDepth 100000 in
theorem k_490 : Cond.static y_La_find ∈ ct_G := ct_ofG (List.mem_append_right _ (List.mem_of_getElem? (i := 476) rfl)) (by decide +kernel)
set_option maxRecDepth 100000 in
theorem k_491 : Cond.code y_Mo_find b_Mo_find 5 (some .int) ∈ ct_G := ct_ofG (List.mem_append_right _ (List.mem_of_getElem? (i := 759) rfl)) (by decide +kernel)
set_option maxRecDepth 100000 in
theorem k_492 : Cond.instanceMethod y_Mo_find ∈ ct_G := ct_ofG (List.mem_append_right _ (List.mem_of_getElem? (i := 757) rfl)) (by decide +kernel)
set_option maxRecDepth 100000 in
theorem k_493 : Cond.selects R_Mo y_Mo_find y_Mo_find ∈ ct_G := ct_ofG (List.mem_append_right _ (List.mem_of_getElem? (i := 758) rfl)) (by decide +kernel)
set_option maxRecDepth 100000 in
theorem k_494 : Cond.methodLink R_La 102 y_Mo_find ∈ ct_G := ct_ofG (List.mem_append_right _ (List.mem_of_getElem? (i := 756) rfl)) (by decide +kernel)
set_option maxRecDepth 100000 in
theorem k_495 : Cond.codeWith y_La_value b_La_value 5 (some .int) [(0, 9, 12, 13)] ∈ ct_G := ct_ofG (List.mem_append_right _ (List.mem_of_getElem? (i := 524) rfl)) (by decide +kernel)
set_option maxRecDepth 100000 in
theorem k_496 : Cond.methodLink R_La 103 y_La_value ∈ ct_G := ct_ofG (List.mem_append_right _ (List.mem_of_getElem? (i := 522) rfl)) (by decide +kernel)
set_option maxRecDepth 100000 in
theorem k_497 : Cond.static y_La_value ∈ ct_G := ct_ofG (List.mem_append_right _ (List.mem_of_getElem? (i := 523) rfl)) (by decide +kernel)
set_option maxRecDepth 100000 in
theorem k_498 : Cond.code y_Mo_value b_Mo_value 6 (some .long) ∈ ct_G := ct_ofG (List.mem_append_right _ (List.mem_of_getElem? (i := 685) rfl)) (by decide +kernel)
set_option maxRecDepth 100000 in
theorem k_499 : Cond.instanceMethod y_Mo_value ∈ ct_G := ct_ofG (List.mem_append_right _ (List.mem_of_getElem? (i := 683) rfl)) (by decide +kernel)
set_option maxRecDepth 100000 in
theorem k_500 : Cond.selects R_Mo y_Mo_value y_Mo_value ∈ ct_G := ct_ofG (List.mem_append_right _ (List.mem_of_getElem? (i := 684) rfl)) (by decide +kernel)
set_option maxRecDepth 100000 in
theorem k_501 : Cond.methodLink R_La 105 y_Mo_value ∈ ct_G := ct_ofG (List.mem_append_right _ (List.mem_of_getElem? (i := 682) rfl)) (by decide +kernel)
set_option maxRecDepth 100000 in
theorem k_502 : Cond.code y_Sq_count b_Sq_count 2 (some .int) ∈ ct_G := ct_ofG (List.mem_append_right _ (List.mem_of_getElem? (i := 208) rfl)) (by decide +kernel)
set_option maxRecDepth 100000 in
theorem k_503 : Cond.instanceMethod y_Sq_count ∈ ct_G := ct_ofG (List.mem_append_right _ (List.mem_of_getElem? (i := 206) rfl)) (by decide +kernel)
set_option maxRecDepth 100000 in
theorem k_504 : Cond.selects R_Sq y_Sq_count y_Sq_count ∈ ct_G := ct_ofG (List.mem_append_right _ (List.mem_of_getElem? (i := 207) rfl)) (by decide +kernel)
set_option maxRecDepth 100000 in
theorem k_505 : Cond.methodLink R_La 106 y_Sq_count ∈ ct_G := ct_ofG (List.mem_append_right _ (List.mem_of_getElem? (i := 205) rfl)) (by decide +kernel)
set_option maxRecDepth 100000 in
theorem k_506 : Cond.code y_Mo_count b_Mo_count 5 (some .int) ∈ ct_G := ct_ofG (List.mem_append_right _ (List.mem_of_getElem? (i := 695) rfl)) (by decide +kernel)
set_option maxRecDepth 100000 in
theorem k_507 : Cond.instanceMethod y_Mo_count ∈ ct_G := ct_ofG (List.mem_append_right _ (List.mem_of_getElem? (i := 693) rfl)) (by decide +kernel)
set_option maxRecDepth 100000 in
theorem k_508 : Cond.selects R_Mo y_Mo_count y_Mo_count ∈ ct_G := ct_ofG (List.mem_append_right _ (List.mem_of_getElem? (i := 694) rfl)) (by decide +kernel)
set_option maxRecDepth 100000 in
theorem k_509 : Cond.methodLink R_La 109 y_Mo_count ∈ ct_G := ct_ofG (List.mem_append_right _ (List.mem_of_getElem? (i := 692) rfl)) (by decide +kernel)
set_option maxRecDepth 100000 in
theorem k_510 : Cond.code y_Sq_clear b_Sq_clear 1 none ∈ ct_G := ct_ofG (List.mem_append_right _ (List.mem_of_getElem? (i := 220) rfl)) (by decide +kernel)
set_option maxRecDepth 100000 in
theorem k_511 : Cond.instanceMethod y_Sq_clear ∈ ct_G := ct_ofG (List.mem_append_right _ (List.mem_of_getElem? (i := 218) rfl)) (by decide +kernel)
set_option maxRecDepth 100000 in
theorem k_512 : Cond.selects R_Sq y_Sq_clear y_Sq_clear ∈ ct_G := ct_ofG (List.mem_append_right _ (List.mem_of_getElem? (i := 219) rfl)) (by decide +kernel)
set_option maxRecDepth 100000 in
theorem k_513 : Cond.methodLink R_La 110 y_Sq_clear ∈ ct_G := ct_ofG (List.mem_append_right _ (List.mem_of_getElem? (i := 217) rfl)) (by decide +kernel)
set_option maxRecDepth 100000 in
theorem k_514 : Cond.code y_Mo_clear b_Mo_clear 2 none ∈ ct_G := ct_ofG (List.mem_append_right _ (List.mem_of_getElem? (i := 665) rfl)) (by decide +kernel)
set_option maxRecDepth 100000 in
theorem k_515 : Cond.instanceMethod y_Mo_clear ∈ ct_G := ct_ofG (List.mem_append_right _ (List.mem_of_getElem? (i := 663) rfl)) (by decide +kernel)
set_option maxRecDepth 100000 in
theorem k_516 : Cond.selects R_Mo y_Mo_clear y_Mo_clear ∈ ct_G := ct_ofG (List.mem_append_right _ (List.mem_of_getElem? (i := 664) rfl)) (by decide +kernel)
set_option maxRecDepth 100000 in
theorem k_517 : Cond.methodLink R_La 113 y_Mo_clear ∈ ct_G := ct_ofG (List.mem_append_right _ (List.mem_of_getElem? (i := 662) rfl)) (by decide +kernel)
