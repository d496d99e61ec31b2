set_option maxRecDepth 100000 in
theorem k_329 : Cond.methodLink R_Sq 1 objectInit ∈ ct_G := ct_ofG (List.mem_append_right _ (List.mem_of_getElem? (i := 21) rfl)) (by decide +kernel)
set_option maxRecDepth 100000 in
theorem k_330 : Cond.instanceMethod objectInit ∈ ct_G := ct_ofG (List.mem_append_right _ (List.mem_of_getElem? (i := 22) rfl)) (by decide +kernel)
set_option maxRecDepth 100000 in
theorem k_331 : Cond.code objectInit ⟨#[0xb1]⟩ 1 none ∈ ct_G := ct_ofG (List.mem_append_right _ (List.mem_of_getElem? (i := 23) rfl)) (by decide +kernel)
set_option maxRecDepth 100000 in
theorem k_332 : Cond.arrayClass .int ∈ ct_G := ct_ofG (List.mem_append_right _ (List.mem_of_getElem? (i := 47) rfl)) (by decide +kernel)
set_option maxRecDepth 100000 in
theorem k_333 : Cond.classLink R_Sq 16 R_Hull ∈ ct_G := ct_ofG (List.mem_append_right _ (List.mem_of_getElem? (i := 24) rfl)) (by decide +kernel)
set_option maxRecDepth 100000 in
theorem k_334 : Cond.instantiable R_Hull 4 ∈ ct_G := ct_ofG (List.mem_append_right _ (List.mem_of_getElem? (i := 25) rfl)) (by decide +kernel)
set_option maxRecDepth 100000 in
theorem k_335 : Cond.methodLink R_Hull 3 objectInit ∈ ct_G := ct_ofG (List.mem_append_right _ (List.mem_of_getElem? (i := 29) rfl)) (by decide +kernel)
set_option maxRecDepth 100000 in
theorem k_336 : Cond.arrayClass .boolean ∈ ct_G := ct_ofG (List.mem_append_right _ (List.mem_of_getElem? (i := 48) rfl)) (by decide +kernel)
set_option maxRecDepth 100000 in
theorem k_337 : Cond.code y_Hull_init b_Hull_init 1 none ∈ ct_G := ct_ofG (List.mem_append_right _ (List.mem_of_getElem? (i := 28) rfl)) (by decide +kernel)
set_option maxRecDepth 100000 in
theorem k_338 : Cond.instanceMethod y_Hull_init ∈ ct_G := ct_ofG (List.mem_append_right _ (List.mem_of_getElem? (i := 27) rfl)) (by decide +kernel)
set_option maxRecDepth 100000 in
theorem k_339 : Cond.classLink R_Sq 23 R_Pairs ∈ ct_G := ct_ofG (List.mem_append_right _ (List.mem_of_getElem? (i := 49) rfl)) (by decide +kernel)
set_option maxRecDepth 100000 in
theorem k_340 : Cond.instantiable R_Pairs 9 ∈ ct_G := ct_ofG (List.mem_append_right _ (List.mem_of_getElem? (i := 50) rfl)) (by decide +kernel)
set_option maxRecDepth 100000 in
theorem k_341 : Cond.methodLink R_Pairs 3 objectInit ∈ ct_G := ct_ofG (List.mem_append_right _ (List.mem_of_getElem? (i := 54) rfl)) (by decide +kernel)
set_option maxRecDepth 100000 in
theorem k_342 : Cond.code y_Pairs_init b_Pairs_init 1 none ∈ ct_G := ct_ofG (List.mem_append_right _ (List.mem_of_getElem? (i := 53) rfl)) (by decide +kernel)
set_option maxRecDepth 100000 in
theorem k_343 : Cond.instanceMethod y_Pairs_init ∈ ct_G := ct_ofG (List.mem_append_right _ (List.mem_of_getElem? (i := 52) rfl)) (by decide +kernel)
set_option maxRecDepth 100000 in
theorem k_344 : Cond.methodLink R_Sq 25 y_Pairs_init ∈ ct_G := ct_ofG (List.mem_append_right _ (List.mem_of_getElem? (i := 51) rfl)) (by decide +kernel)
set_option maxRecDepth 100000 in
theorem k_345 : Cond.classLink R_Sq 30 R_Steps ∈ ct_G := ct_ofG (List.mem_append_right _ (List.mem_of_getElem? (i := 95) rfl)) (by decide +kernel)
set_option maxRecDepth 100000 in
theorem k_346 : Cond.instantiable R_Steps 3 ∈ ct_G := ct_ofG (List.mem_append_right _ (List.mem_of_getElem? (i := 96) rfl)) (by decide +kernel)
set_option maxRecDepth 100000 in
theorem k_347 : Cond.methodLink R_Steps 3 objectInit ∈ ct_G := ct_ofG (List.mem_append_right _ (List.mem_of_getElem? (i := 100) rfl)) (by decide +kernel)
set_option maxRecDepth 100000 in
theorem k_348 : Cond.arrayClass .long ∈ ct_G := ct_ofG (List.mem_append_right _ (List.mem_of_getElem? (i := 112) rfl)) (by decide +kernel)
set_option maxRecDepth 100000 in
theorem k_349 : Cond.code y_Steps_init b_Steps_init 1 none ∈ ct_G := ct_ofG (List.mem_append_right _ (List.mem_of_getElem? (i := 99) rfl)) (by decide +kernel)
set_option maxRecDepth 100000 in
theorem k_350 : Cond.instanceMethod y_Steps_init ∈ ct_G := ct_ofG (List.mem_append_right _ (List.mem_of_getElem? (i := 98) rfl)) (by decide +kernel)
set_option maxRecDepth 100000 in
theorem k_351 : Cond.classLink R_Sq 37 R_Search ∈ ct_G := ct_ofG (List.mem_append_right _ (List.mem_of_getElem? (i := 113) rfl)) (by decide +kernel)
set_option maxRecDepth 100000 in
theorem k_352 : Cond.instantiable R_Search 5 ∈ ct_G := ct_ofG (List.mem_append_right _ (List.mem_of_getElem? (i := 114) rfl)) (by decide +kernel)
set_option maxRecDepth 100000 in
theorem k_353 : Cond.methodLink R_Search 3 objectInit ∈ ct_G := ct_ofG (List.mem_append_right _ (List.mem_of_getElem? (i := 118) rfl)) (by decide +kernel)
set_option maxRecDepth 100000 in
theorem k_354 : Cond.classLink R_Search 24 R_Steps ∈ ct_G := ct_ofG (List.mem_append_right _ (List.mem_of_getElem? (i := 119) rfl)) (by decide +kernel)
set_option maxRecDepth 100000 in
theorem k_355 : Cond.code y_Search_init b_Search_init 1 none ∈ ct_G := ct_ofG (List.mem_append_right _ (List.mem_of_getElem? (i := 117) rfl)) (by decide +kernel)
set_option maxRecDepth 100000 in
theorem k_356 : Cond.instanceMethod y_Search_init ∈ ct_G := ct_ofG (List.mem_append_right _ (List.mem_of_getElem? (i := 116) rfl)) (by decide +kernel)
set_option maxRecDepth 100000 in
theorem k_357 : Cond.methodLink R_Mo 1 objectInit ∈ ct_G := ct_ofG (List.mem_append_right _ (List.mem_of_getElem? (i := 538) rfl)) (by decide +kernel)
set_option maxRecDepth 100000 in
theorem n_23 : Cond.methodLinkNest R_Sq 18 y_Hull_init "SquareSums" ∈ ct_N := ct_ofN (List.mem_append_right _ (List.mem_of_getElem? (i := 26) rfl)) rfl
set_option maxRecDepth 100000 in
theorem n_24 : Cond.methodLinkNest R_Sq 32 y_Steps_init "SquareSums" ∈ ct_N := ct_ofN (List.mem_append_right _ (List.mem_of_getElem? (i := 97) rfl)) rfl
set_option maxRecDepth 100000 in
theorem n_25 : Cond.methodLinkNest R_Search 26 y_Steps_init "SquareSums" ∈ ct_N := ct_ofN (List.mem_append_right _ (List.mem_of_getElem? (i := 120) rfl)) rfl
set_option maxRecDepth 100000 in
theorem n_26 : Cond.methodLinkNest R_Sq 39 y_Search_init "SquareSums" ∈ ct_N := ct_ofN (List.mem_append_right _ (List.mem_of_getElem? (i := 115) rfl)) rfl
