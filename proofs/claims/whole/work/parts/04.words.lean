theorem iw_Hull : ∀ w ∈ u_ws R_Hull T_Hull 4, w ∈ ct_G := fun w h => ct_ofG (iv_Hull w h).1 (iv_Hull w h).2
theorem iw_Pairs : ∀ w ∈ u_ws R_Pairs T_Pairs 9, w ∈ ct_G := fun w h => ct_ofG (iv_Pairs w h).1 (iv_Pairs w h).2
theorem iw_Search : ∀ w ∈ u_ws R_Search T_Search 5, w ∈ ct_G := fun w h => ct_ofG (iv_Search w h).1 (iv_Search w h).2
theorem iw_Steps : ∀ w ∈ u_ws R_Steps T_Steps 3, w ∈ ct_G := fun w h => ct_ofG (iv_Steps w h).1 (iv_Steps w h).2
theorem iw_Sq : ∀ w ∈ u_ws R_Sq T_Sq 8, w ∈ ct_G := fun w h => ct_ofG (iv_Sq w h).1 (iv_Sq w h).2
theorem iw_Mo : ∀ w ∈ u_ws R_Mo T_Mo 26, w ∈ ct_G := fun w h => ct_ofG (iv_Mo w h).1 (iv_Mo w h).2
set_option maxRecDepth 100000 in
theorem k_0 : Cond.fieldLink R_Hull 9 "SquareSums$Hull" "corner" "[Z" ∈ ct_G := ct_ofG (List.mem_append_right _ (List.mem_of_getElem? (i := 30) rfl)) (by decide +kernel)
set_option maxRecDepth 100000 in
theorem k_1 : Cond.fieldLink R_Hull 15 "SquareSums$Hull" "outside" "[Z" ∈ ct_G := ct_ofG (List.mem_append_right _ (List.mem_of_getElem? (i := 31) rfl)) (by decide +kernel)
set_option maxRecDepth 100000 in
theorem k_2 : Cond.code y_Hull_forget b_Hull_forget 2 none ∈ ct_G := ct_ofG (List.mem_append_right _ (List.mem_of_getElem? (i := 233) rfl)) (by decide +kernel)
set_option maxRecDepth 100000 in
theorem k_3 : Cond.initialized R_Hull ∈ ct_G := ct_ofG (List.mem_append_right _ (List.mem_of_getElem? (i := 2) rfl)) (by decide +kernel)
set_option maxRecDepth 100000 in
theorem k_4 : Cond.instanceMethod y_Hull_forget ∈ ct_G := ct_ofG (List.mem_append_right _ (List.mem_of_getElem? (i := 232) rfl)) (by decide +kernel)
set_option maxRecDepth 100000 in
theorem k_5 : Cond.selects R_Hull y_Hull_forget y_Hull_forget ∈ ct_G := ct_ofG (List.mem_append_left _ (List.mem_of_getElem? (i := 4) rfl)) (by decide +kernel)
set_option maxRecDepth 100000 in
theorem k_6 : Cond.methodLink R_Hull 26 y_Hull_forget ∈ ct_G := ct_ofG (List.mem_append_right _ (List.mem_of_getElem? (i := 230) rfl)) (by decide +kernel)
set_option maxRecDepth 100000 in
theorem k_7 : Cond.code y_Hull_lookAlong b_Hull_lookAlong 9 none ∈ ct_G := ct_ofG (List.mem_append_right _ (List.mem_of_getElem? (i := 237) rfl)) (by decide +kernel)
set_option maxRecDepth 100000 in
theorem k_8 : Cond.instanceMethod y_Hull_lookAlong ∈ ct_G := ct_ofG (List.mem_append_right _ (List.mem_of_getElem? (i := 236) rfl)) (by decide +kernel)
set_option maxRecDepth 100000 in
theorem k_9 : Cond.selects R_Hull y_Hull_lookAlong y_Hull_lookAlong ∈ ct_G := ct_ofG (List.mem_append_left _ (List.mem_of_getElem? (i := 5) rfl)) (by decide +kernel)
set_option maxRecDepth 100000 in
theorem k_10 : Cond.methodLink R_Hull 29 y_Hull_lookAlong ∈ ct_G := ct_ofG (List.mem_append_right _ (List.mem_of_getElem? (i := 234) rfl)) (by decide +kernel)
set_option maxRecDepth 100000 in
theorem k_11 : Cond.fieldLink R_Hull 22 "SquareSums$Hull" "size" "I" ∈ ct_G := ct_ofG (List.mem_append_right _ (List.mem_of_getElem? (i := 35) rfl)) (by decide +kernel)
set_option maxRecDepth 100000 in
theorem k_12 : Cond.fieldLink R_Hull 18 "SquareSums$Hull" "members" "[I" ∈ ct_G := ct_ofG (List.mem_append_right _ (List.mem_of_getElem? (i := 32) rfl)) (by decide +kernel)
set_option maxRecDepth 100000 in
theorem k_13 : Cond.code y_Hull_gatherMembers b_Hull_gatherMembers 2 none ∈ ct_G := ct_ofG (List.mem_append_right _ (List.mem_of_getElem? (i := 241) rfl)) (by decide +kernel)
set_option maxRecDepth 100000 in
theorem k_14 : Cond.instanceMethod y_Hull_gatherMembers ∈ ct_G := ct_ofG (List.mem_append_right _ (List.mem_of_getElem? (i := 240) rfl)) (by decide +kernel)
set_option maxRecDepth 100000 in
theorem k_15 : Cond.selects R_Hull y_Hull_gatherMembers y_Hull_gatherMembers ∈ ct_G := ct_ofG (List.mem_append_left _ (List.mem_of_getElem? (i := 6) rfl)) (by decide +kernel)
set_option maxRecDepth 100000 in
theorem k_16 : Cond.methodLink R_Hull 33 y_Hull_gatherMembers ∈ ct_G := ct_ofG (List.mem_append_right _ (List.mem_of_getElem? (i := 238) rfl)) (by decide +kernel)
set_option maxRecDepth 100000 in
theorem k_17 : Cond.fieldLink R_Steps 9 "SquareSums$Steps" "left" "[J" ∈ ct_G := ct_ofG (List.mem_append_right _ (List.mem_of_getElem? (i := 101) rfl)) (by decide +kernel)
set_option maxRecDepth 100000 in
theorem k_18 : Cond.fieldLink R_Steps 19 "SquareSums$Steps" "size" "I" ∈ ct_G := ct_ofG (List.mem_append_right _ (List.mem_of_getElem? (i := 103) rfl)) (by decide +kernel)
set_option maxRecDepth 100000 in
theorem k_19 : Cond.code y_Sq_cellOf b_Sq_cellOf 2 (some .int) ∈ ct_G := ct_ofG (List.mem_append_right _ (List.mem_of_getElem? (i := 192) rfl)) (by decide +kernel)
set_option maxRecDepth 100000 in
theorem k_20 : Cond.initialized R_Sq ∈ ct_G := ct_ofG (List.mem_append_right _ (List.mem_of_getElem? (i := 1) rfl)) (by decide +kernel)
set_option maxRecDepth 100000 in
theorem k_21 : Cond.static y_Sq_cellOf ∈ ct_G := ct_ofG (List.mem_append_right _ (List.mem_of_getElem? (i := 191) rfl)) (by decide +kernel)
set_option maxRecDepth 100000 in
theorem k_22 : Cond.code y_Steps_takeOffSquare b_Steps_takeOffSquare 13 none ∈ ct_G := ct_ofG (List.mem_append_right _ (List.mem_of_getElem? (i := 200) rfl)) (by decide +kernel)
set_option maxRecDepth 100000 in
theorem k_23 : Cond.initialized R_Steps ∈ ct_G := ct_ofG (List.mem_append_right _ (List.mem_of_getElem? (i := 5) rfl)) (by decide +kernel)
set_option maxRecDepth 100000 in
theorem k_24 : Cond.instanceMethod y_Steps_takeOffSquare ∈ ct_G := ct_ofG (List.mem_append_right _ (List.mem_of_getElem? (i := 199) rfl)) (by decide +kernel)
set_option maxRecDepth 100000 in
theorem k_25 : Cond.selects R_Steps y_Steps_takeOffSquare y_Steps_takeOffSquare ∈ ct_G := ct_ofG (List.mem_append_left _ (List.mem_of_getElem? (i := 1) rfl)) (by decide +kernel)
set_option maxRecDepth 100000 in
theorem k_26 : Cond.methodLink R_Steps 30 y_Steps_takeOffSquare ∈ ct_G := ct_ofG (List.mem_append_right _ (List.mem_of_getElem? (i := 197) rfl)) (by decide +kernel)
set_option maxRecDepth 100000 in
theorem k_27 : Cond.fieldLink R_Steps 15 "SquareSums$Steps" "squareMember" "[I" ∈ ct_G := ct_ofG (List.mem_append_right _ (List.mem_of_getElem? (i := 102) rfl)) (by decide +kernel)
set_option maxRecDepth 100000 in
theorem k_28 : Cond.code y_Steps_firstNotZeroBehind b_Steps_firstNotZeroBehind 4 (some .int) ∈ ct_G := ct_ofG (List.mem_append_right _ (List.mem_of_getElem? (i := 196) rfl)) (by decide +kernel)
set_option maxRecDepth 100000 in
theorem k_29 : Cond.instanceMethod y_Steps_firstNotZeroBehind ∈ ct_G := ct_ofG (List.mem_append_right _ (List.mem_of_getElem? (i := 195) rfl)) (by decide +kernel)
set_option maxRecDepth 100000 in
theorem k_30 : Cond.selects R_Steps y_Steps_firstNotZeroBehind y_Steps_firstNotZeroBehind ∈ ct_G := ct_ofG (List.mem_append_left _ (List.mem_of_getElem? (i := 0) rfl)) (by decide +kernel)
set_option maxRecDepth 100000 in
theorem k_31 : Cond.methodLink R_Steps 27 y_Steps_firstNotZeroBehind ∈ ct_G := ct_ofG (List.mem_append_right _ (List.mem_of_getElem? (i := 193) rfl)) (by decide +kernel)
set_option maxRecDepth 100000 in
theorem k_32 : Cond.code y_Steps_pivot b_Steps_pivot 2 (some .long) ∈ ct_G := ct_ofG (List.mem_append_right _ (List.mem_of_getElem? (i := 441) rfl)) (by decide +kernel)
set_option maxRecDepth 100000 in
theorem k_33 : Cond.instanceMethod y_Steps_pivot ∈ ct_G := ct_ofG (List.mem_append_right _ (List.mem_of_getElem? (i := 440) rfl)) (by decide +kernel)
set_option maxRecDepth 100000 in
theorem k_34 : Cond.selects R_Steps y_Steps_pivot y_Steps_pivot ∈ ct_G := ct_ofG (List.mem_append_left _ (List.mem_of_getElem? (i := 12) rfl)) (by decide +kernel)
set_option maxRecDepth 100000 in
theorem k_35 : Cond.methodLink R_Steps 34 y_Steps_pivot ∈ ct_G := ct_ofG (List.mem_append_right _ (List.mem_of_getElem? (i := 438) rfl)) (by decide +kernel)
set_option maxRecDepth 100000 in
theorem k_36 : Cond.constantLong R_Steps 38 2 ∈ ct_G := ct_ofG (List.mem_append_right _ (List.mem_of_getElem? (i := 446) rfl)) (by decide +kernel)
set_option maxRecDepth 100000 in
theorem k_37 : Cond.fieldLink R_Pairs 24 "SquareSums$Pairs" "hanging" "[I" ∈ ct_G := ct_ofG (List.mem_append_right _ (List.mem_of_getElem? (i := 66) rfl)) (by decide +kernel)
set_option maxRecDepth 100000 in
theorem k_38 : Cond.code y_Ar_fill b_Ar_fill 4 none ∈ ct_G := ct_ofG (List.mem_append_right _ (List.mem_of_getElem? (i := 57) rfl)) (by decide +kernel)
set_option maxRecDepth 100000 in
theorem k_39 : Cond.initialized R_Ar ∈ ct_G := ct_ofG (List.mem_append_right _ (List.mem_of_getElem? (i := 4) rfl)) (by decide +kernel)
set_option maxRecDepth 100000 in
theorem k_40 : Cond.static y_Ar_fill ∈ ct_G := ct_ofG (List.mem_append_right _ (List.mem_of_getElem? (i := 56) rfl)) (by decide +kernel)
set_option maxRecDepth 100000 in
theorem k_41 : Cond.methodLink R_Pairs 40 y_Ar_fill ∈ ct_G := ct_ofG (List.mem_append_right _ (List.mem_of_getElem? (i := 55) rfl)) (by decide +kernel)
set_option maxRecDepth 100000 in
theorem k_42 : Cond.fieldLink R_Pairs 33 "SquareSums$Pairs" "size" "I" ∈ ct_G := ct_ofG (List.mem_append_right _ (List.mem_of_getElem? (i := 71) rfl)) (by decide +kernel)
set_option maxRecDepth 100000 in
theorem k_43 : Cond.code y_Sq_powerAt b_Sq_powerAt 3 (some .int) ∈ ct_G := ct_ofG (List.mem_append_right _ (List.mem_of_getElem? (i := 253) rfl)) (by decide +kernel)
set_option maxRecDepth 100000 in
theorem k_44 : Cond.static y_Sq_powerAt ∈ ct_G := ct_ofG (List.mem_append_right _ (List.mem_of_getElem? (i := 252) rfl)) (by decide +kernel)
set_option maxRecDepth 100000 in
theorem k_45 : Cond.code y_Pairs_productOf b_Pairs_productOf 2 (some .int) ∈ ct_G := ct_ofG (List.mem_append_right _ (List.mem_of_getElem? (i := 248) rfl)) (by decide +kernel)
set_option maxRecDepth 100000 in
theorem k_46 : Cond.initialized R_Pairs ∈ ct_G := ct_ofG (List.mem_append_right _ (List.mem_of_getElem? (i := 3) rfl)) (by decide +kernel)
set_option maxRecDepth 100000 in
theorem k_47 : Cond.static y_Pairs_productOf ∈ ct_G := ct_ofG (List.mem_append_right _ (List.mem_of_getElem? (i := 247) rfl)) (by decide +kernel)
set_option maxRecDepth 100000 in
theorem k_48 : Cond.methodLink R_Pairs 52 y_Pairs_productOf ∈ ct_G := ct_ofG (List.mem_append_right _ (List.mem_of_getElem? (i := 246) rfl)) (by decide +kernel)
set_option maxRecDepth 100000 in
theorem k_49 : Cond.fieldLink R_Pairs 9 "SquareSums$Pairs" "second" "[I" ∈ ct_G := ct_ofG (List.mem_append_right _ (List.mem_of_getElem? (i := 58) rfl)) (by decide +kernel)
set_option maxRecDepth 100000 in
theorem k_50 : Cond.fieldLink R_Pairs 15 "SquareSums$Pairs" "cell" "[I" ∈ ct_G := ct_ofG (List.mem_append_right _ (List.mem_of_getElem? (i := 60) rfl)) (by decide +kernel)
set_option maxRecDepth 100000 in
theorem k_51 : Cond.fieldLink R_Pairs 18 "SquareSums$Pairs" "power" "[I" ∈ ct_G := ct_ofG (List.mem_append_right _ (List.mem_of_getElem? (i := 62) rfl)) (by decide +kernel)
set_option maxRecDepth 100000 in
theorem k_52 : Cond.fieldLink R_Pairs 21 "SquareSums$Pairs" "share" "[I" ∈ ct_G := ct_ofG (List.mem_append_right _ (List.mem_of_getElem? (i := 64) rfl)) (by decide +kernel)
set_option maxRecDepth 100000 in
theorem k_53 : Cond.code y_Pairs_add b_Pairs_add 4 none ∈ ct_G := ct_ofG (List.mem_append_right _ (List.mem_of_getElem? (i := 257) rfl)) (by decide +kernel)
set_option maxRecDepth 100000 in
theorem k_54 : Cond.instanceMethod y_Pairs_add ∈ ct_G := ct_ofG (List.mem_append_right _ (List.mem_of_getElem? (i := 256) rfl)) (by decide +kernel)
set_option maxRecDepth 100000 in
theorem k_55 : Cond.selects R_Pairs y_Pairs_add y_Pairs_add ∈ ct_G := ct_ofG (List.mem_append_left _ (List.mem_of_getElem? (i := 7) rfl)) (by decide +kernel)
set_option maxRecDepth 100000 in
theorem k_56 : Cond.methodLink R_Pairs 56 y_Pairs_add ∈ ct_G := ct_ofG (List.mem_append_right _ (List.mem_of_getElem? (i := 254) rfl)) (by decide +kernel)
set_option maxRecDepth 100000 in
theorem k_57 : Cond.fieldLink R_Pairs 37 "SquareSums$Pairs" "freeSize" "I" ∈ ct_G := ct_ofG (List.mem_append_right _ (List.mem_of_getElem? (i := 73) rfl)) (by decide +kernel)
set_option maxRecDepth 100000 in
theorem k_58 : Cond.fieldLink R_Pairs 27 "SquareSums$Pairs" "freePairs" "[I" ∈ ct_G := ct_ofG (List.mem_append_right _ (List.mem_of_getElem? (i := 68) rfl)) (by decide +kernel)
set_option maxRecDepth 100000 in
theorem k_59 : Cond.code y_Pairs_gatherFree b_Pairs_gatherFree 2 none ∈ ct_G := ct_ofG (List.mem_append_right _ (List.mem_of_getElem? (i := 262) rfl)) (by decide +kernel)
set_option maxRecDepth 100000 in
theorem k_60 : Cond.instanceMethod y_Pairs_gatherFree ∈ ct_G := ct_ofG (List.mem_append_right _ (List.mem_of_getElem? (i := 261) rfl)) (by decide +kernel)
set_option maxRecDepth 100000 in
theorem k_61 : Cond.selects R_Pairs y_Pairs_gatherFree y_Pairs_gatherFree ∈ ct_G := ct_ofG (List.mem_append_left _ (List.mem_of_getElem? (i := 8) rfl)) (by decide +kernel)
set_option maxRecDepth 100000 in
theorem k_62 : Cond.methodLink R_Pairs 60 y_Pairs_gatherFree ∈ ct_G := ct_ofG (List.mem_append_right _ (List.mem_of_getElem? (i := 259) rfl)) (by decide +kernel)
set_option maxRecDepth 100000 in
theorem k_63 : Cond.fieldLink R_Pairs 30 "SquareSums$Pairs" "rest" "[I" ∈ ct_G := ct_ofG (List.mem_append_right _ (List.mem_of_getElem? (i := 70) rfl)) (by decide +kernel)
set_option maxRecDepth 100000 in
theorem k_64 : Cond.code y_Pairs_doubleInto b_Pairs_doubleInto 3 none ∈ ct_G := ct_ofG (List.mem_append_right _ (List.mem_of_getElem? (i := 185) rfl)) (by decide +kernel)
set_option maxRecDepth 100000 in
theorem k_65 : Cond.static y_Pairs_doubleInto ∈ ct_G := ct_ofG (List.mem_append_right _ (List.mem_of_getElem? (i := 184) rfl)) (by decide +kernel)
set_option maxRecDepth 100000 in
theorem k_66 : Cond.methodLink R_Pairs 75 y_Pairs_doubleInto ∈ ct_G := ct_ofG (List.mem_append_right _ (List.mem_of_getElem? (i := 183) rfl)) (by decide +kernel)
set_option maxRecDepth 100000 in
theorem k_67 : Cond.code y_Pairs_haveAllTerms b_Pairs_haveAllTerms 3 (some .boolean) ∈ ct_G := ct_ofG (List.mem_append_right _ (List.mem_of_getElem? (i := 490) rfl)) (by decide +kernel)
set_option maxRecDepth 100000 in
theorem k_68 : Cond.instanceMethod y_Pairs_haveAllTerms ∈ ct_G := ct_ofG (List.mem_append_right _ (List.mem_of_getElem? (i := 488) rfl)) (by decide +kernel)
set_option maxRecDepth 100000 in
theorem k_69 : Cond.selects R_Pairs y_Pairs_haveAllTerms y_Pairs_haveAllTerms ∈ ct_G := ct_ofG (List.mem_append_right _ (List.mem_of_getElem? (i := 489) rfl)) (by decide +kernel)
set_option maxRecDepth 100000 in
theorem k_70 : Cond.methodLink R_Search 31 y_Pairs_haveAllTerms ∈ ct_G := ct_ofG (List.mem_append_right _ (List.mem_of_getElem? (i := 487) rfl)) (by decide +kernel)
set_option maxRecDepth 100000 in
theorem k_71 : Cond.fieldLink R_Search 9 "SquareSums$Search" "table" "[I" ∈ ct_G := ct_ofG (List.mem_append_right _ (List.mem_of_getElem? (i := 121) rfl)) (by decide +kernel)
set_option maxRecDepth 100000 in
theorem k_72 : Cond.methodLink R_Search 37 y_Ar_fill ∈ ct_G := ct_ofG (List.mem_append_right _ (List.mem_of_getElem? (i := 491) rfl)) (by decide +kernel)
set_option maxRecDepth 100000 in
theorem k_73 : Cond.fieldLink R_Search 18 "SquareSums$Search" "chosen" "[I" ∈ ct_G := ct_ofG (List.mem_append_right _ (List.mem_of_getElem? (i := 124) rfl)) (by decide +kernel)
set_option maxRecDepth 100000 in
theorem k_74 : Cond.code y_Search_startBehind b_Search_startBehind 4 none ∈ ct_G := ct_ofG (List.mem_append_right _ (List.mem_of_getElem? (i := 495) rfl)) (by decide +kernel)
set_option maxRecDepth 100000 in
theorem k_75 : Cond.initialized R_Search ∈ ct_G := ct_ofG (List.mem_append_right _ (List.mem_of_getElem? (i := 6) rfl)) (by decide +kernel)
set_option maxRecDepth 100000 in
theorem k_76 : Cond.instanceMethod y_Search_startBehind ∈ ct_G := ct_ofG (List.mem_append_right _ (List.mem_of_getElem? (i := 494) rfl)) (by decide +kernel)
set_option maxRecDepth 100000 in
theorem k_77 : Cond.selects R_Search y_Search_startBehind y_Search_startBehind ∈ ct_G := ct_ofG (List.mem_append_left _ (List.mem_of_getElem? (i := 13) rfl)) (by decide +kernel)
set_option maxRecDepth 100000 in
theorem k_78 : Cond.methodLink R_Search 43 y_Search_startBehind ∈ ct_G := ct_ofG (List.mem_append_right _ (List.mem_of_getElem? (i := 492) rfl)) (by decide +kernel)
set_option maxRecDepth 100000 in
theorem k_79 : Cond.fieldLink R_Search 21 "SquareSums$Search" "lastFree" "[I" ∈ ct_G := ct_ofG (List.mem_append_right _ (List.mem_of_getElem? (i := 125) rfl)) (by decide +kernel)
set_option maxRecDepth 100000 in
theorem k_80 : Cond.code y_Search_markFrom b_Search_markFrom 4 none ∈ ct_G := ct_ofG (List.mem_append_right _ (List.mem_of_getElem? (i := 503) rfl)) (by decide +kernel)
set_option maxRecDepth 100000 in
theorem k_81 : Cond.instanceMethod y_Search_markFrom ∈ ct_G := ct_ofG (List.mem_append_right _ (List.mem_of_getElem? (i := 502) rfl)) (by decide +kernel)
set_option maxRecDepth 100000 in
theorem k_82 : Cond.selects R_Search y_Search_markFrom y_Search_markFrom ∈ ct_G := ct_ofG (List.mem_append_left _ (List.mem_of_getElem? (i := 15) rfl)) (by decide +kernel)
set_option maxRecDepth 100000 in
theorem k_83 : Cond.methodLink R_Search 79 y_Search_markFrom ∈ ct_G := ct_ofG (List.mem_append_right _ (List.mem_of_getElem? (i := 500) rfl)) (by decide +kernel)
set_option maxRecDepth 100000 in
theorem k_84 : Cond.code y_Search_findLastFree b_Search_findLastFree 5 none ∈ ct_G := ct_ofG (List.mem_append_right _ (List.mem_of_getElem? (i := 499) rfl)) (by decide +kernel)
set_option maxRecDepth 100000 in
theorem k_85 : Cond.instanceMethod y_Search_findLastFree ∈ ct_G := ct_ofG (List.mem_append_right _ (List.mem_of_getElem? (i := 498) rfl)) (by decide +kernel)
set_option maxRecDepth 100000 in
theorem k_86 : Cond.selects R_Search y_Search_findLastFree y_Search_findLastFree ∈ ct_G := ct_ofG (List.mem_append_left _ (List.mem_of_getElem? (i := 14) rfl)) (by decide +kernel)
set_option maxRecDepth 100000 in
theorem k_87 : Cond.methodLink R_Search 47 y_Search_findLastFree ∈ ct_G := ct_ofG (List.mem_append_right _ (List.mem_of_getElem? (i := 496) rfl)) (by decide +kernel)
set_option maxRecDepth 100000 in
theorem k_88 : Cond.fieldLink R_Search 15 "SquareSums$Search" "rest" "[I" ∈ ct_G := ct_ofG (List.mem_append_right _ (List.mem_of_getElem? (i := 123) rfl)) (by decide +kernel)
set_option maxRecDepth 100000 in
theorem k_89 : Cond.methodLink R_Search 82 y_Pairs_doubleInto ∈ ct_G := ct_ofG (List.mem_append_right _ (List.mem_of_getElem? (i := 508) rfl)) (by decide +kernel)
set_option maxRecDepth 100000 in
theorem k_90 : Cond.code y_Sq_within b_Sq_within 2 (some .boolean) ∈ ct_G := ct_ofG (List.mem_append_right _ (List.mem_of_getElem? (i := 345) rfl)) (by decide +kernel)
set_option maxRecDepth 100000 in
theorem k_91 : Cond.static y_Sq_within ∈ ct_G := ct_ofG (List.mem_append_right _ (List.mem_of_getElem? (i := 344) rfl)) (by decide +kernel)
set_option maxRecDepth 100000 in
theorem k_92 : Cond.fieldLink R_Search 27 "SquareSums$Search" "steps" "LSquareSums$Steps;" ∈ ct_G := ct_ofG (List.mem_append_right _ (List.mem_of_getElem? (i := 126) rfl)) (by decide +kernel)
set_option maxRecDepth 100000 in
theorem k_93 : Cond.code y_Steps_failingMember b_Steps_failingMember 9 (some .int) ∈ ct_G := ct_ofG (List.mem_append_right _ (List.mem_of_getElem? (i := 189) rfl)) (by decide +kernel)
set_option maxRecDepth 100000 in
theorem k_94 : Cond.instanceMethod y_Steps_failingMember ∈ ct_G := ct_ofG (List.mem_append_right _ (List.mem_of_getElem? (i := 187) rfl)) (by decide +kernel)
set_option maxRecDepth 100000 in
theorem k_95 : Cond.selects R_Steps y_Steps_failingMember y_Steps_failingMember ∈ ct_G := ct_ofG (List.mem_append_right _ (List.mem_of_getElem? (i := 188) rfl)) (by decide +kernel)
set_option maxRecDepth 100000 in
theorem k_96 : Cond.methodLink R_Search 98 y_Steps_failingMember ∈ ct_G := ct_ofG (List.mem_append_right _ (List.mem_of_getElem? (i := 510) rfl)) (by decide +kernel)
set_option maxRecDepth 100000 in
theorem k_97 : Cond.code y_Search_wrongMember b_Search_wrongMember 7 (some .int) ∈ ct_G := ct_ofG (List.mem_append_right _ (List.mem_of_getElem? (i := 507) rfl)) (by decide +kernel)
set_option maxRecDepth 100000 in
theorem k_98 : Cond.instanceMethod y_Search_wrongMember ∈ ct_G := ct_ofG (List.mem_append_right _ (List.mem_of_getElem? (i := 506) rfl)) (by decide +kernel)
set_option maxRecDepth 100000 in
theorem k_99 : Cond.selects R_Search y_Search_wrongMember y_Search_wrongMember ∈ ct_G := ct_ofG (List.mem_append_left _ (List.mem_of_getElem? (i := 16) rfl)) (by decide +kernel)
set_option maxRecDepth 100000 in
theorem k_100 : Cond.methodLink R_Search 51 y_Search_wrongMember ∈ ct_G := ct_ofG (List.mem_append_right _ (List.mem_of_getElem? (i := 504) rfl)) (by decide +kernel)
set_option maxRecDepth 100000 in
theorem k_101 : Cond.code y_Search_goOn b_Search_goOn 4 (some .boolean) ∈ ct_G := ct_ofG (List.mem_append_right _ (List.mem_of_getElem? (i := 518) rfl)) (by decide +kernel)
set_option maxRecDepth 100000 in
theorem k_102 : Cond.instanceMethod y_Search_goOn ∈ ct_G := ct_ofG (List.mem_append_right _ (List.mem_of_getElem? (i := 517) rfl)) (by decide +kernel)
set_option maxRecDepth 100000 in
theorem k_103 : Cond.selects R_Search y_Search_goOn y_Search_goOn ∈ ct_G := ct_ofG (List.mem_append_left _ (List.mem_of_getElem? (i := 18) rfl)) (by decide +kernel)
set_option maxRecDepth 100000 in
theorem k_104 : Cond.methodLink R_Search 63 y_Search_goOn ∈ ct_G := ct_ofG (List.mem_append_right _ (List.mem_of_getElem? (i := 515) rfl)) (by decide +kernel)
set_option maxRecDepth 100000 in
theorem k_105 : Cond.code y_Search_placeOfChosen b_Search_placeOfChosen 5 (some .int) ∈ ct_G := ct_ofG (List.mem_append_right _ (List.mem_of_getElem? (i := 514) rfl)) (by decide +kernel)
set_option maxRecDepth 100000 in
theorem k_106 : Cond.instanceMethod y_Search_placeOfChosen ∈ ct_G := ct_ofG (List.mem_append_right _ (List.mem_of_getElem? (i := 513) rfl)) (by decide +kernel)
set_option maxRecDepth 100000 in
theorem k_107 : Cond.selects R_Search y_Search_placeOfChosen y_Search_placeOfChosen ∈ ct_G := ct_ofG (List.mem_append_left _ (List.mem_of_getElem? (i := 17) rfl)) (by decide +kernel)
set_option maxRecDepth 100000 in
theorem k_108 : Cond.methodLink R_Search 59 y_Search_placeOfChosen ∈ ct_G := ct_ofG (List.mem_append_right _ (List.mem_of_getElem? (i := 511) rfl)) (by decide +kernel)
set_option maxRecDepth 100000 in
theorem k_109 : Cond.methodLink R_Sq 52 y_Sq_powerAt ∈ ct_G := ct_ofG (List.mem_append_right _ (List.mem_of_getElem? (i := 274) rfl)) (by decide +kernel)
set_option maxRecDepth 100000 in
theorem k_110 : Cond.fieldLink R_Sq 48 "SquareSums" "unknowns" "I" ∈ ct_G := ct_ofG (List.mem_append_right _ (List.mem_of_getElem? (i := 138) rfl)) (by decide +kernel)
set_option maxRecDepth 100000 in
theorem k_111 : Cond.methodLink R_Sq 63 y_Sq_within ∈ ct_G := ct_ofG (List.mem_append_right _ (List.mem_of_getElem? (i := 343) rfl)) (by decide +kernel)
set_option maxRecDepth 100000 in
theorem k_112 : Cond.fieldLink R_Sq 9 "SquareSums" "numbers" "[I" ∈ ct_G := ct_ofG (List.mem_append_right _ (List.mem_of_getElem? (i := 139) rfl)) (by decide +kernel)
set_option maxRecDepth 100000 in
theorem k_113 : Cond.fieldLink R_Sq 13 "SquareSums" "table" "[I" ∈ ct_G := ct_ofG (List.mem_append_right _ (List.mem_of_getElem? (i := 140) rfl)) (by decide +kernel)
set_option maxRecDepth 100000 in
theorem k_114 : Cond.methodLink R_Sq 176 y_Ar_fill ∈ ct_G := ct_ofG (List.mem_append_right _ (List.mem_of_getElem? (i := 221) rfl)) (by decide +kernel)
set_option maxRecDepth 100000 in
theorem k_115 : Cond.fieldLink R_Sq 44 "SquareSums" "squaresThere" "Z" ∈ ct_G := ct_ofG (List.mem_append_right _ (List.mem_of_getElem? (i := 145) rfl)) (by decide +kernel)
set_option maxRecDepth 100000 in
theorem k_116 : Cond.fieldLink R_Sq 19 "SquareSums" "hull" "LSquareSums$Hull;" ∈ ct_G := ct_ofG (List.mem_append_right _ (List.mem_of_getElem? (i := 141) rfl)) (by decide +kernel)
set_option maxRecDepth 100000 in
theorem k_117 : Cond.code y_Hull_span b_Hull_span 4 none ∈ ct_G := ct_ofG (List.mem_append_right _ (List.mem_of_getElem? (i := 229) rfl)) (by decide +kernel)
set_option maxRecDepth 100000 in
theorem k_118 : Cond.instanceMethod y_Hull_span ∈ ct_G := ct_ofG (List.mem_append_right _ (List.mem_of_getElem? (i := 227) rfl)) (by decide +kernel)
set_option maxRecDepth 100000 in
theorem k_119 : Cond.selects R_Hull y_Hull_span y_Hull_span ∈ ct_G := ct_ofG (List.mem_append_right _ (List.mem_of_getElem? (i := 228) rfl)) (by decide +kernel)
set_option maxRecDepth 100000 in
theorem k_120 : Cond.methodLink R_Sq 182 y_Hull_span ∈ ct_G := ct_ofG (List.mem_append_right _ (List.mem_of_getElem? (i := 226) rfl)) (by decide +kernel)
set_option maxRecDepth 100000 in
theorem k_121 : Cond.fieldLink R_Sq 26 "SquareSums" "pairs" "LSquareSums$Pairs;" ∈ ct_G := ct_ofG (List.mem_append_right _ (List.mem_of_getElem? (i := 142) rfl)) (by decide +kernel)
set_option maxRecDepth 100000 in
theorem k_122 : Cond.code y_Pairs_arrange b_Pairs_arrange 5 none ∈ ct_G := ct_ofG (List.mem_append_right _ (List.mem_of_getElem? (i := 245) rfl)) (by decide +kernel)
set_option maxRecDepth 100000 in
theorem k_123 : Cond.instanceMethod y_Pairs_arrange ∈ ct_G := ct_ofG (List.mem_append_right _ (List.mem_of_getElem? (i := 243) rfl)) (by decide +kernel)
set_option maxRecDepth 100000 in
theorem k_124 : Cond.selects R_Pairs y_Pairs_arrange y_Pairs_arrange ∈ ct_G := ct_ofG (List.mem_append_right _ (List.mem_of_getElem? (i := 244) rfl)) (by decide +kernel)
set_option maxRecDepth 100000 in
theorem k_125 : Cond.methodLink R_Sq 186 y_Pairs_arrange ∈ ct_G := ct_ofG (List.mem_append_right _ (List.mem_of_getElem? (i := 242) rfl)) (by decide +kernel)
set_option maxRecDepth 100000 in
theorem k_126 : Cond.code y_Sq_startAnew b_Sq_startAnew 1 none ∈ ct_G := ct_ofG (List.mem_append_right _ (List.mem_of_getElem? (i := 225) rfl)) (by decide +kernel)
set_option maxRecDepth 100000 in
theorem k_127 : Cond.instanceMethod y_Sq_startAnew ∈ ct_G := ct_ofG (List.mem_append_right _ (List.mem_of_getElem? (i := 224) rfl)) (by decide +kernel)
set_option maxRecDepth 100000 in
theorem k_128 : Cond.selects R_Sq y_Sq_startAnew y_Sq_startAnew ∈ ct_G := ct_ofG (List.mem_append_left _ (List.mem_of_getElem? (i := 3) rfl)) (by decide +kernel)
set_option maxRecDepth 100000 in
theorem k_129 : Cond.methodLink R_Sq 69 y_Sq_startAnew ∈ ct_G := ct_ofG (List.mem_append_right _ (List.mem_of_getElem? (i := 222) rfl)) (by decide +kernel)
set_option maxRecDepth 100000 in
theorem k_130 : Cond.code y_Hull_hasBarredCorner b_Hull_hasBarredCorner 4 (some .boolean) ∈ ct_G := ct_ofG (List.mem_append_right _ (List.mem_of_getElem? (i := 170) rfl)) (by decide +kernel)
set_option maxRecDepth 100000 in
theorem k_131 : Cond.instanceMethod y_Hull_hasBarredCorner ∈ ct_G := ct_ofG (List.mem_append_right _ (List.mem_of_getElem? (i := 168) rfl)) (by decide +kernel)
set_option maxRecDepth 100000 in
theorem k_132 : Cond.selects R_Hull y_Hull_hasBarredCorner y_Hull_hasBarredCorner ∈ ct_G := ct_ofG (List.mem_append_right _ (List.mem_of_getElem? (i := 169) rfl)) (by decide +kernel)
set_option maxRecDepth 100000 in
theorem k_133 : Cond.methodLink R_Sq 72 y_Hull_hasBarredCorner ∈ ct_G := ct_ofG (List.mem_append_right _ (List.mem_of_getElem? (i := 167) rfl)) (by decide +kernel)
set_option maxRecDepth 100000 in
theorem k_134 : Cond.code y_Sq_isMember b_Sq_isMember 2 (some .boolean) ∈ ct_G := ct_ofG (List.mem_append_right _ (List.mem_of_getElem? (i := 358) rfl)) (by decide +kernel)
set_option maxRecDepth 100000 in
theorem k_135 : Cond.instanceMethod y_Sq_isMember ∈ ct_G := ct_ofG (List.mem_append_right _ (List.mem_of_getElem? (i := 357) rfl)) (by decide +kernel)
set_option maxRecDepth 100000 in
theorem k_136 : Cond.selects R_Sq y_Sq_isMember y_Sq_isMember ∈ ct_G := ct_ofG (List.mem_append_left _ (List.mem_of_getElem? (i := 10) rfl)) (by decide +kernel)
set_option maxRecDepth 100000 in
theorem k_137 : Cond.methodLink R_Sq 79 y_Sq_isMember ∈ ct_G := ct_ofG (List.mem_append_right _ (List.mem_of_getElem? (i := 355) rfl)) (by decide +kernel)
set_option maxRecDepth 100000 in
theorem k_138 : Cond.fieldLink R_Sq 96 "SquareSums" "POWER_B" "[I" ∈ ct_G := ct_ofG (List.mem_append_right _ (List.mem_of_getElem? (i := 377) rfl)) (by decide +kernel)
set_option maxRecDepth 100000 in
theorem k_139 : Cond.fieldLink R_Sq 93 "SquareSums" "POWER_A" "[I" ∈ ct_G := ct_ofG (List.mem_append_right _ (List.mem_of_getElem? (i := 376) rfl)) (by decide +kernel)
set_option maxRecDepth 100000 in
theorem k_140 : Cond.methodLink R_Sq 101 y_Sq_cellOf ∈ ct_G := ct_ofG (List.mem_append_right _ (List.mem_of_getElem? (i := 386) rfl)) (by decide +kernel)
set_option maxRecDepth 100000 in
theorem k_141 : Cond.code y_Pairs_make b_Pairs_make 4 (some .boolean) ∈ ct_G := ct_ofG (List.mem_append_right _ (List.mem_of_getElem? (i := 182) rfl)) (by decide +kernel)
set_option maxRecDepth 100000 in
theorem k_142 : Cond.instanceMethod y_Pairs_make ∈ ct_G := ct_ofG (List.mem_append_right _ (List.mem_of_getElem? (i := 180) rfl)) (by decide +kernel)
set_option maxRecDepth 100000 in
theorem k_143 : Cond.selects R_Pairs y_Pairs_make y_Pairs_make ∈ ct_G := ct_ofG (List.mem_append_right _ (List.mem_of_getElem? (i := 181) rfl)) (by decide +kernel)
set_option maxRecDepth 100000 in
theorem k_144 : Cond.methodLink R_Sq 104 y_Pairs_make ∈ ct_G := ct_ofG (List.mem_append_right _ (List.mem_of_getElem? (i := 179) rfl)) (by decide +kernel)
set_option maxRecDepth 100000 in
theorem k_145 : Cond.fieldLink R_Sq 33 "SquareSums" "steps" "LSquareSums$Steps;" ∈ ct_G := ct_ofG (List.mem_append_right _ (List.mem_of_getElem? (i := 143) rfl)) (by decide +kernel)
set_option maxRecDepth 100000 in
theorem k_146 : Cond.methodLink R_Sq 108 y_Steps_failingMember ∈ ct_G := ct_ofG (List.mem_append_right _ (List.mem_of_getElem? (i := 186) rfl)) (by decide +kernel)
set_option maxRecDepth 100000 in
theorem k_147 : Cond.code y_Sq_isSquare b_Sq_isSquare 2 (some .boolean) ∈ ct_G := ct_ofG (List.mem_append_right _ (List.mem_of_getElem? (i := 428) rfl)) (by decide +kernel)
set_option maxRecDepth 100000 in
theorem k_148 : Cond.instanceMethod y_Sq_isSquare ∈ ct_G := ct_ofG (List.mem_append_right _ (List.mem_of_getElem? (i := 427) rfl)) (by decide +kernel)
set_option maxRecDepth 100000 in
theorem k_149 : Cond.selects R_Sq y_Sq_isSquare y_Sq_isSquare ∈ ct_G := ct_ofG (List.mem_append_left _ (List.mem_of_getElem? (i := 11) rfl)) (by decide +kernel)
set_option maxRecDepth 100000 in
theorem k_150 : Cond.methodLink R_Sq 118 y_Sq_isSquare ∈ ct_G := ct_ofG (List.mem_append_right _ (List.mem_of_getElem? (i := 425) rfl)) (by decide +kernel)
set_option maxRecDepth 100000 in
theorem k_151 : Cond.code y_Sq_isPart b_Sq_isPart 1 (some .boolean) ∈ ct_G := ct_ofG (List.mem_append_right _ (List.mem_of_getElem? (i := 432) rfl)) (by decide +kernel)
set_option maxRecDepth 100000 in
theorem k_152 : Cond.static y_Sq_isPart ∈ ct_G := ct_ofG (List.mem_append_right _ (List.mem_of_getElem? (i := 431) rfl)) (by decide +kernel)
set_option maxRecDepth 100000 in
theorem k_153 : Cond.methodLink R_Sq 123 y_Sq_isPart ∈ ct_G := ct_ofG (List.mem_append_right _ (List.mem_of_getElem? (i := 430) rfl)) (by decide +kernel)
set_option maxRecDepth 100000 in
theorem k_154 : Cond.code y_Steps_weightAbove b_Steps_weightAbove 2 (some .long) ∈ ct_G := ct_ofG (List.mem_append_right _ (List.mem_of_getElem? (i := 437) rfl)) (by decide +kernel)
set_option maxRecDepth 100000 in
theorem k_155 : Cond.instanceMethod y_Steps_weightAbove ∈ ct_G := ct_ofG (List.mem_append_right _ (List.mem_of_getElem? (i := 435) rfl)) (by decide +kernel)
set_option maxRecDepth 100000 in
theorem k_156 : Cond.selects R_Steps y_Steps_weightAbove y_Steps_weightAbove ∈ ct_G := ct_ofG (List.mem_append_right _ (List.mem_of_getElem? (i := 436) rfl)) (by decide +kernel)
set_option maxRecDepth 100000 in
theorem k_157 : Cond.methodLink R_Sq 128 y_Steps_weightAbove ∈ ct_G := ct_ofG (List.mem_append_right _ (List.mem_of_getElem? (i := 434) rfl)) (by decide +kernel)
set_option maxRecDepth 100000 in
theorem k_158 : Cond.code y_Steps_weightBelow b_Steps_weightBelow 2 (some .long) ∈ ct_G := ct_ofG (List.mem_append_right _ (List.mem_of_getElem? (i := 445) rfl)) (by decide +kernel)
set_option maxRecDepth 100000 in
theorem k_159 : Cond.instanceMethod y_Steps_weightBelow ∈ ct_G := ct_ofG (List.mem_append_right _ (List.mem_of_getElem? (i := 443) rfl)) (by decide +kernel)
set_option maxRecDepth 100000 in
theorem k_160 : Cond.selects R_Steps y_Steps_weightBelow y_Steps_weightBelow ∈ ct_G := ct_ofG (List.mem_append_right _ (List.mem_of_getElem? (i := 444) rfl)) (by decide +kernel)
set_option maxRecDepth 100000 in
theorem k_161 : Cond.methodLink R_Sq 132 y_Steps_weightBelow ∈ ct_G := ct_ofG (List.mem_append_right _ (List.mem_of_getElem? (i := 442) rfl)) (by decide +kernel)
set_option maxRecDepth 100000 in
theorem k_162 : Cond.methodLink R_Sq 190 Lib.MathLoose.abs_long.x ∈ ct_G := ct_ofG (List.mem_append_right _ (List.mem_of_getElem? (i := 450) rfl)) (by decide +kernel)
set_option maxRecDepth 100000 in
theorem k_163 : Cond.static Lib.MathLoose.abs_long.x ∈ ct_G := ct_ofG (List.mem_append_right _ (List.mem_of_getElem? (i := 451) rfl)) (by decide +kernel)
set_option maxRecDepth 100000 in
theorem k_164 : Cond.initialized "java/lang/Math" ∈ ct_G := ct_ofG (List.mem_append_right _ (List.mem_of_getElem? (i := 14) rfl)) (by decide +kernel)
set_option maxRecDepth 100000 in
theorem k_165 : Cond.code Lib.MathLoose.abs_long.x Lib.MathLoose.abs_long.code 2 (some .long) ∈ ct_G := ct_ofG (List.mem_append_right _ (List.mem_of_getElem? (i := 452) rfl)) (by decide +kernel)
set_option maxRecDepth 100000 in
theorem k_166 : Cond.methodLink R_Sq 200 Lib.MathLoose.max_long.x ∈ ct_G := ct_ofG (List.mem_append_right _ (List.mem_of_getElem? (i := 456) rfl)) (by decide +kernel)
set_option maxRecDepth 100000 in
theorem k_167 : Cond.static Lib.MathLoose.max_long.x ∈ ct_G := ct_ofG (List.mem_append_right _ (List.mem_of_getElem? (i := 457) rfl)) (by decide +kernel)
set_option maxRecDepth 100000 in
theorem k_168 : Cond.code Lib.MathLoose.max_long.x Lib.MathLoose.max_long.code 4 (some .long) ∈ ct_G := ct_ofG (List.mem_append_right _ (List.mem_of_getElem? (i := 458) rfl)) (by decide +kernel)
set_option maxRecDepth 100000 in
theorem k_169 : Cond.code y_Sq_commonDivisor b_Sq_commonDivisor 11 (some .long) ∈ ct_G := ct_ofG (List.mem_append_right _ (List.mem_of_getElem? (i := 455) rfl)) (by decide +kernel)
set_option maxRecDepth 100000 in
theorem k_170 : Cond.static y_Sq_commonDivisor ∈ ct_G := ct_ofG (List.mem_append_right _ (List.mem_of_getElem? (i := 454) rfl)) (by decide +kernel)
set_option maxRecDepth 100000 in
theorem k_171 : Cond.methodLink R_Sq 196 y_Sq_commonDivisor ∈ ct_G := ct_ofG (List.mem_append_right _ (List.mem_of_getElem? (i := 453) rfl)) (by decide +kernel)
set_option maxRecDepth 100000 in
theorem k_172 : Cond.code y_Sq_partOf b_Sq_partOf 7 (some .long) ∈ ct_G := ct_ofG (List.mem_append_right _ (List.mem_of_getElem? (i := 449) rfl)) (by decide +kernel)
set_option maxRecDepth 100000 in
theorem k_173 : Cond.static y_Sq_partOf ∈ ct_G := ct_ofG (List.mem_append_right _ (List.mem_of_getElem? (i := 448) rfl)) (by decide +kernel)
set_option maxRecDepth 100000 in
theorem k_174 : Cond.methodLink R_Sq 135 y_Sq_partOf ∈ ct_G := ct_ofG (List.mem_append_right _ (List.mem_of_getElem? (i := 447) rfl)) (by decide +kernel)
set_option maxRecDepth 100000 in
theorem k_175 : Cond.code y_Steps_rowAbove b_Steps_rowAbove 3 (some .long) ∈ ct_G := ct_ofG (List.mem_append_right _ (List.mem_of_getElem? (i := 470) rfl)) (by decide +kernel)
set_option maxRecDepth 100000 in
theorem k_176 : Cond.instanceMethod y_Steps_rowAbove ∈ ct_G := ct_ofG (List.mem_append_right _ (List.mem_of_getElem? (i := 468) rfl)) (by decide +kernel)
set_option maxRecDepth 100000 in
theorem k_177 : Cond.selects R_Steps y_Steps_rowAbove y_Steps_rowAbove ∈ ct_G := ct_ofG (List.mem_append_right _ (List.mem_of_getElem? (i := 469) rfl)) (by decide +kernel)
set_option maxRecDepth 100000 in
theorem k_178 : Cond.methodLink R_Sq 141 y_Steps_rowAbove ∈ ct_G := ct_ofG (List.mem_append_right _ (List.mem_of_getElem? (i := 467) rfl)) (by decide +kernel)
set_option maxRecDepth 100000 in
theorem k_179 : Cond.code y_Steps_rowBelow b_Steps_rowBelow 2 (some .long) ∈ ct_G := ct_ofG (List.mem_append_right _ (List.mem_of_getElem? (i := 474) rfl)) (by decide +kernel)
set_option maxRecDepth 100000 in
theorem k_180 : Cond.instanceMethod y_Steps_rowBelow ∈ ct_G := ct_ofG (List.mem_append_right _ (List.mem_of_getElem? (i := 472) rfl)) (by decide +kernel)
set_option maxRecDepth 100000 in
theorem k_181 : Cond.selects R_Steps y_Steps_rowBelow y_Steps_rowBelow ∈ ct_G := ct_ofG (List.mem_append_right _ (List.mem_of_getElem? (i := 473) rfl)) (by decide +kernel)
set_option maxRecDepth 100000 in
theorem k_182 : Cond.methodLink R_Sq 145 y_Steps_rowBelow ∈ ct_G := ct_ofG (List.mem_append_right _ (List.mem_of_getElem? (i := 471) rfl)) (by decide +kernel)
set_option maxRecDepth 100000 in
theorem k_183 : Cond.fieldLink R_Sq 40 "SquareSums" "search" "LSquareSums$Search;" ∈ ct_G := ct_ofG (List.mem_append_right _ (List.mem_of_getElem? (i := 144) rfl)) (by decide +kernel)
set_option maxRecDepth 100000 in
theorem k_184 : Cond.code y_Search_triedAhead b_Search_triedAhead 7 (some .int) ∈ ct_G := ct_ofG (List.mem_append_right _ (List.mem_of_getElem? (i := 486) rfl)) (by decide +kernel)
set_option maxRecDepth 100000 in
theorem k_185 : Cond.instanceMethod y_Search_triedAhead ∈ ct_G := ct_ofG (List.mem_append_right _ (List.mem_of_getElem? (i := 484) rfl)) (by decide +kernel)
set_option maxRecDepth 100000 in
theorem k_186 : Cond.selects R_Search y_Search_triedAhead y_Search_triedAhead ∈ ct_G := ct_ofG (List.mem_append_right _ (List.mem_of_getElem? (i := 485) rfl)) (by decide +kernel)
set_option maxRecDepth 100000 in
theorem k_187 : Cond.methodLink R_Sq 153 y_Search_triedAhead ∈ ct_G := ct_ofG (List.mem_append_right _ (List.mem_of_getElem? (i := 483) rfl)) (by decide +kernel)
set_option maxRecDepth 100000 in
theorem k_188 : Cond.methodLink R_Sq 158 arraycopyName ∈ ct_G := ct_ofG (List.mem_append_right _ (List.mem_of_getElem? (i := 519) rfl)) (by decide +kernel)
set_option maxRecDepth 100000 in
theorem k_189 : Cond.native arraycopyName ∈ ct_G := ct_ofG (List.mem_append_right _ (List.mem_of_getElem? (i := 521) rfl)) (by decide +kernel)
set_option maxRecDepth 100000 in
theorem k_190 : Cond.static arraycopyName ∈ ct_G := ct_ofG (List.mem_append_right _ (List.mem_of_getElem? (i := 520) rfl)) (by decide +kernel)
set_option maxRecDepth 100000 in
theorem k_191 : Cond.initialized "java/lang/System" ∈ ct_G := ct_ofG (List.mem_append_right _ (List.mem_of_getElem? (i := 15) rfl)) (by decide +kernel)
set_option maxRecDepth 100000 in
theorem k_192 : Cond.code y_Sq_raised b_Sq_raised 5 (some .long) ∈ ct_G := ct_ofG (List.mem_append_right _ (List.mem_of_getElem? (i := 532) rfl)) (by decide +kernel)
set_option maxRecDepth 100000 in
theorem k_193 : Cond.static y_Sq_raised ∈ ct_G := ct_ofG (List.mem_append_right _ (List.mem_of_getElem? (i := 531) rfl)) (by decide +kernel)
set_option maxRecDepth 100000 in
theorem k_194 : Cond.methodLink R_Sq 166 y_Sq_raised ∈ ct_G := ct_ofG (List.mem_append_right _ (List.mem_of_getElem? (i := 530) rfl)) (by decide +kernel)
set_option maxRecDepth 100000 in
theorem k_195 : Cond.code y_Sq_termCount b_Sq_termCount 3 (some .int) ∈ ct_G := ct_ofG (List.mem_append_right _ (List.mem_of_getElem? (i := 212) rfl)) (by decide +kernel)
set_option maxRecDepth 100000 in
theorem k_196 : Cond.instanceMethod y_Sq_termCount ∈ ct_G := ct_ofG (List.mem_append_right _ (List.mem_of_getElem? (i := 211) rfl)) (by decide +kernel)
set_option maxRecDepth 100000 in
theorem k_197 : Cond.selects R_Sq y_Sq_termCount y_Sq_termCount ∈ ct_G := ct_ofG (List.mem_append_left _ (List.mem_of_getElem? (i := 2) rfl)) (by decide +kernel)
set_option maxRecDepth 100000 in
theorem k_198 : Cond.methodLink R_Sq 169 y_Sq_termCount ∈ ct_G := ct_ofG (List.mem_append_right _ (List.mem_of_getElem? (i := 209) rfl)) (by decide +kernel)
set_option maxRecDepth 100000 in
theorem k_199 : Cond.code y_Hull_cornerCount b_Hull_cornerCount 3 (some .int) ∈ ct_G := ct_ofG (List.mem_append_right _ (List.mem_of_getElem? (i := 216) rfl)) (by decide +kernel)
set_option maxRecDepth 100000 in
theorem k_200 : Cond.instanceMethod y_Hull_cornerCount ∈ ct_G := ct_ofG (List.mem_append_right _ (List.mem_of_getElem? (i := 214) rfl)) (by decide +kernel)
set_option maxRecDepth 100000 in
theorem k_201 : Cond.selects R_Hull y_Hull_cornerCount y_Hull_cornerCount ∈ ct_G := ct_ofG (List.mem_append_right _ (List.mem_of_getElem? (i := 215) rfl)) (by decide +kernel)
set_option maxRecDepth 100000 in
theorem k_202 : Cond.methodLink R_Sq 173 y_Hull_cornerCount ∈ ct_G := ct_ofG (List.mem_append_right _ (List.mem_of_getElem? (i := 213) rfl)) (by decide +kernel)
set_option maxRecDepth 100000 in
theorem k_203 : Cond.fieldLink R_Mo 72 "SquareSumsModel" "thrown" "I" ∈ ct_G := ct_ofG (List.mem_append_right _ (List.mem_of_getElem? (i := 539) rfl)) (by decide +kernel)
set_option maxRecDepth 100000 in
theorem k_204 : Cond.fieldLink R_Mo 69 "SquareSumsModel" "powers" "I" ∈ ct_G := ct_ofG (List.mem_append_right _ (List.mem_of_getElem? (i := 541) rfl)) (by decide +kernel)
set_option maxRecDepth 100000 in
theorem k_205 : Cond.fieldLink R_Mo 7 "SquareSumsModel" "first" "[I" ∈ ct_G := ct_ofG (List.mem_append_right _ (List.mem_of_getElem? (i := 542) rfl)) (by decide +kernel)
set_option maxRecDepth 100000 in
theorem k_206 : Cond.fieldLink R_Mo 13 "SquareSumsModel" "second" "[I" ∈ ct_G := ct_ofG (List.mem_append_right _ (List.mem_of_getElem? (i := 543) rfl)) (by decide +kernel)
set_option maxRecDepth 100000 in
theorem k_207 : Cond.fieldLink R_Mo 16 "SquareSumsModel" "numbers" "[I" ∈ ct_G := ct_ofG (List.mem_append_right _ (List.mem_of_getElem? (i := 544) rfl)) (by decide +kernel)
set_option maxRecDepth 100000 in
theorem k_208 : Cond.code y_Mo_area b_Mo_area 5 (some .int) ∈ ct_G := ct_ofG (List.mem_append_right _ (List.mem_of_getElem? (i := 661) rfl)) (by decide +kernel)
set_option maxRecDepth 100000 in
theorem k_209 : Cond.initialized R_Mo ∈ ct_G := ct_ofG (List.mem_append_right _ (List.mem_of_getElem? (i := 7) rfl)) (by decide +kernel)
set_option maxRecDepth 100000 in
theorem k_210 : Cond.instanceMethod y_Mo_area ∈ ct_G := ct_ofG (List.mem_append_right _ (List.mem_of_getElem? (i := 660) rfl)) (by decide +kernel)
set_option maxRecDepth 100000 in
theorem k_211 : Cond.selects R_Mo y_Mo_area y_Mo_area ∈ ct_G := ct_ofG (List.mem_append_left _ (List.mem_of_getElem? (i := 27) rfl)) (by decide +kernel)
set_option maxRecDepth 100000 in
theorem k_212 : Cond.methodLink R_Mo 75 y_Mo_area ∈ ct_G := ct_ofG (List.mem_append_right _ (List.mem_of_getElem? (i := 658) rfl)) (by decide +kernel)
set_option maxRecDepth 100000 in
theorem k_213 : Cond.code y_Mo_isBetween b_Mo_isBetween 7 (some .boolean) ∈ ct_G := ct_ofG (List.mem_append_right _ (List.mem_of_getElem? (i := 657) rfl)) (by decide +kernel)
set_option maxRecDepth 100000 in
theorem k_214 : Cond.instanceMethod y_Mo_isBetween ∈ ct_G := ct_ofG (List.mem_append_right _ (List.mem_of_getElem? (i := 656) rfl)) (by decide +kernel)
set_option maxRecDepth 100000 in
theorem k_215 : Cond.selects R_Mo y_Mo_isBetween y_Mo_isBetween ∈ ct_G := ct_ofG (List.mem_append_left _ (List.mem_of_getElem? (i := 26) rfl)) (by decide +kernel)
set_option maxRecDepth 100000 in
theorem k_216 : Cond.methodLink R_Mo 79 y_Mo_isBetween ∈ ct_G := ct_ofG (List.mem_append_right _ (List.mem_of_getElem? (i := 654) rfl)) (by decide +kernel)
set_option maxRecDepth 100000 in
theorem k_217 : Cond.code y_Mo_isTerm b_Mo_isTerm 3 (some .boolean) ∈ ct_G := ct_ofG (List.mem_append_right _ (List.mem_of_getElem? (i := 649) rfl)) (by decide +kernel)
set_option maxRecDepth 100000 in
theorem k_218 : Cond.instanceMethod y_Mo_isTerm ∈ ct_G := ct_ofG (List.mem_append_right _ (List.mem_of_getElem? (i := 648) rfl)) (by decide +kernel)
set_option maxRecDepth 100000 in
theorem k_219 : Cond.selects R_Mo y_Mo_isTerm y_Mo_isTerm ∈ ct_G := ct_ofG (List.mem_append_left _ (List.mem_of_getElem? (i := 24) rfl)) (by decide +kernel)
set_option maxRecDepth 100000 in
theorem k_220 : Cond.methodLink R_Mo 83 y_Mo_isTerm ∈ ct_G := ct_ofG (List.mem_append_right _ (List.mem_of_getElem? (i := 646) rfl)) (by decide +kernel)
set_option maxRecDepth 100000 in
theorem k_221 : Cond.code y_Mo_covers b_Mo_covers 9 (some .boolean) ∈ ct_G := ct_ofG (List.mem_append_right _ (List.mem_of_getElem? (i := 653) rfl)) (by decide +kernel)
set_option maxRecDepth 100000 in
theorem k_222 : Cond.instanceMethod y_Mo_covers ∈ ct_G := ct_ofG (List.mem_append_right _ (List.mem_of_getElem? (i := 652) rfl)) (by decide +kernel)
set_option maxRecDepth 100000 in
theorem k_223 : Cond.selects R_Mo y_Mo_covers y_Mo_covers ∈ ct_G := ct_ofG (List.mem_append_left _ (List.mem_of_getElem? (i := 25) rfl)) (by decide +kernel)
set_option maxRecDepth 100000 in
theorem k_224 : Cond.methodLink R_Mo 87 y_Mo_covers ∈ ct_G := ct_ofG (List.mem_append_right _ (List.mem_of_getElem? (i := 650) rfl)) (by decide +kernel)
set_option maxRecDepth 100000 in
theorem k_225 : Cond.code y_Mo_isCovered b_Mo_isCovered 8 (some .boolean) ∈ ct_G := ct_ofG (List.mem_append_right _ (List.mem_of_getElem? (i := 645) rfl)) (by decide +kernel)
set_option maxRecDepth 100000 in
theorem k_226 : Cond.instanceMethod y_Mo_isCovered ∈ ct_G := ct_ofG (List.mem_append_right _ (List.mem_of_getElem? (i := 644) rfl)) (by decide +kernel)
set_option maxRecDepth 100000 in
theorem k_227 : Cond.selects R_Mo y_Mo_isCovered y_Mo_isCovered ∈ ct_G := ct_ofG (List.mem_append_left _ (List.mem_of_getElem? (i := 23) rfl)) (by decide +kernel)
set_option maxRecDepth 100000 in
theorem k_228 : Cond.methodLink R_Mo 91 y_Mo_isCovered ∈ ct_G := ct_ofG (List.mem_append_right _ (List.mem_of_getElem? (i := 642) rfl)) (by decide +kernel)
set_option maxRecDepth 100000 in
theorem k_229 : Cond.fieldLink R_Mo 95 "SquareSumsModel" "members" "I" ∈ ct_G := ct_ofG (List.mem_append_right _ (List.mem_of_getElem? (i := 545) rfl)) (by decide +kernel)
set_option maxRecDepth 100000 in
theorem k_230 : Cond.fieldLink R_Mo 19 "SquareSumsModel" "basis" "[I" ∈ ct_G := ct_ofG (List.mem_append_right _ (List.mem_of_getElem? (i := 546) rfl)) (by decide +kernel)
set_option maxRecDepth 100000 in
theorem k_231 : Cond.code y_Mo_findBasis b_Mo_findBasis 2 none ∈ ct_G := ct_ofG (List.mem_append_right _ (List.mem_of_getElem? (i := 641) rfl)) (by decide +kernel)
set_option maxRecDepth 100000 in
theorem k_232 : Cond.instanceMethod y_Mo_findBasis ∈ ct_G := ct_ofG (List.mem_append_right _ (List.mem_of_getElem? (i := 640) rfl)) (by decide +kernel)
set_option maxRecDepth 100000 in
theorem k_233 : Cond.selects R_Mo y_Mo_findBasis y_Mo_findBasis ∈ ct_G := ct_ofG (List.mem_append_left _ (List.mem_of_getElem? (i := 22) rfl)) (by decide +kernel)
set_option maxRecDepth 100000 in
theorem k_234 : Cond.methodLink R_Mo 98 y_Mo_findBasis ∈ ct_G := ct_ofG (List.mem_append_right _ (List.mem_of_getElem? (i := 638) rfl)) (by decide +kernel)
set_option maxRecDepth 100000 in
theorem k_235 : Cond.fieldLink R_Mo 22 "SquareSumsModel" "table" "[I" ∈ ct_G := ct_ofG (List.mem_append_right _ (List.mem_of_getElem? (i := 547) rfl)) (by decide +kernel)
set_option maxRecDepth 100000 in
theorem k_236 : Cond.fieldLink R_Mo 101 "SquareSumsModel" "isThere" "Z" ∈ ct_G := ct_ofG (List.mem_append_right _ (List.mem_of_getElem? (i := 548) rfl)) (by decide +kernel)
set_option maxRecDepth 100000 in
theorem k_237 : Cond.code y_Mo_powerOf b_Mo_powerOf 4 (some .int) ∈ ct_G := ct_ofG (List.mem_append_right _ (List.mem_of_getElem? (i := 629) rfl)) (by decide +kernel)
set_option maxRecDepth 100000 in
theorem k_238 : Cond.instanceMethod y_Mo_powerOf ∈ ct_G := ct_ofG (List.mem_append_right _ (List.mem_of_getElem? (i := 628) rfl)) (by decide +kernel)
set_option maxRecDepth 100000 in
theorem k_239 : Cond.selects R_Mo y_Mo_powerOf y_Mo_powerOf ∈ ct_G := ct_ofG (List.mem_append_left _ (List.mem_of_getElem? (i := 19) rfl)) (by decide +kernel)
set_option maxRecDepth 100000 in
theorem k_240 : Cond.methodLink R_Mo 105 y_Mo_powerOf ∈ ct_G := ct_ofG (List.mem_append_right _ (List.mem_of_getElem? (i := 626) rfl)) (by decide +kernel)
set_option maxRecDepth 100000 in
theorem k_241 : Cond.code y_Mo_refuses b_Mo_refuses 4 (some .boolean) ∈ ct_G := ct_ofG (List.mem_append_right _ (List.mem_of_getElem? (i := 633) rfl)) (by decide +kernel)
set_option maxRecDepth 100000 in
theorem k_242 : Cond.instanceMethod y_Mo_refuses ∈ ct_G := ct_ofG (List.mem_append_right _ (List.mem_of_getElem? (i := 632) rfl)) (by decide +kernel)
set_option maxRecDepth 100000 in
theorem k_243 : Cond.selects R_Mo y_Mo_refuses y_Mo_refuses ∈ ct_G := ct_ofG (List.mem_append_left _ (List.mem_of_getElem? (i := 20) rfl)) (by decide +kernel)
set_option maxRecDepth 100000 in
theorem k_244 : Cond.methodLink R_Mo 109 y_Mo_refuses ∈ ct_G := ct_ofG (List.mem_append_right _ (List.mem_of_getElem? (i := 630) rfl)) (by decide +kernel)
set_option maxRecDepth 100000 in
theorem k_245 : Cond.code y_Mo_begin b_Mo_begin 2 none ∈ ct_G := ct_ofG (List.mem_append_right _ (List.mem_of_getElem? (i := 637) rfl)) (by decide +kernel)
set_option maxRecDepth 100000 in
theorem k_246 : Cond.instanceMethod y_Mo_begin ∈ ct_G := ct_ofG (List.mem_append_right _ (List.mem_of_getElem? (i := 636) rfl)) (by decide +kernel)
set_option maxRecDepth 100000 in
theorem k_247 : Cond.selects R_Mo y_Mo_begin y_Mo_begin ∈ ct_G := ct_ofG (List.mem_append_left _ (List.mem_of_getElem? (i := 21) rfl)) (by decide +kernel)
set_option maxRecDepth 100000 in
theorem k_248 : Cond.methodLink R_Mo 113 y_Mo_begin ∈ ct_G := ct_ofG (List.mem_append_right _ (List.mem_of_getElem? (i := 634) rfl)) (by decide +kernel)
set_option maxRecDepth 100000 in
theorem k_249 : Cond.code y_Mo_isCorner b_Mo_isCorner 2 (some .boolean) ∈ ct_G := ct_ofG (List.mem_append_right _ (List.mem_of_getElem? (i := 673) rfl)) (by decide +kernel)
set_option maxRecDepth 100000 in
theorem k_250 : Cond.instanceMethod y_Mo_isCorner ∈ ct_G := ct_ofG (List.mem_append_right _ (List.mem_of_getElem? (i := 672) rfl)) (by decide +kernel)
set_option maxRecDepth 100000 in
theorem k_251 : Cond.selects R_Mo y_Mo_isCorner y_Mo_isCorner ∈ ct_G := ct_ofG (List.mem_append_left _ (List.mem_of_getElem? (i := 28) rfl)) (by decide +kernel)
set_option maxRecDepth 100000 in
theorem k_252 : Cond.methodLink R_Mo 116 y_Mo_isCorner ∈ ct_G := ct_ofG (List.mem_append_right _ (List.mem_of_getElem? (i := 670) rfl)) (by decide +kernel)
set_option maxRecDepth 100000 in
theorem k_253 : Cond.code y_Mo_isOut b_Mo_isOut 2 (some .boolean) ∈ ct_G := ct_ofG (List.mem_append_right _ (List.mem_of_getElem? (i := 681) rfl)) (by decide +kernel)
set_option maxRecDepth 100000 in
theorem k_254 : Cond.instanceMethod y_Mo_isOut ∈ ct_G := ct_ofG (List.mem_append_right _ (List.mem_of_getElem? (i := 680) rfl)) (by decide +kernel)
set_option maxRecDepth 100000 in
theorem k_255 : Cond.selects R_Mo y_Mo_isOut y_Mo_isOut ∈ ct_G := ct_ofG (List.mem_append_left _ (List.mem_of_getElem? (i := 29) rfl)) (by decide +kernel)
set_option maxRecDepth 100000 in
theorem k_256 : Cond.methodLink R_Mo 120 y_Mo_isOut ∈ ct_G := ct_ofG (List.mem_append_right _ (List.mem_of_getElem? (i := 678) rfl)) (by decide +kernel)
set_option maxRecDepth 100000 in
theorem k_257 : Cond.code y_Mo_isFar b_Mo_isFar 1 (some .boolean) ∈ ct_G := ct_ofG (List.mem_append_right _ (List.mem_of_getElem? (i := 688) rfl)) (by decide +kernel)
set_option maxRecDepth 100000 in
theorem k_258 : Cond.static y_Mo_isFar ∈ ct_G := ct_ofG (List.mem_append_right _ (List.mem_of_getElem? (i := 687) rfl)) (by decide +kernel)
set_option maxRecDepth 100000 in
theorem k_259 : Cond.methodLink R_Mo 123 y_Mo_isFar ∈ ct_G := ct_ofG (List.mem_append_right _ (List.mem_of_getElem? (i := 686) rfl)) (by decide +kernel)
set_option maxRecDepth 100000 in
theorem k_260 : Cond.fieldLink R_Mo 65 "SquareSumsModel" "unknowns" "I" ∈ ct_G := ct_ofG (List.mem_append_right _ (List.mem_of_getElem? (i := 540) rfl)) (by decide +kernel)
set_option maxRecDepth 100000 in
theorem k_261 : Cond.code y_Mo_raised b_Mo_raised 5 (some .long) ∈ ct_G := ct_ofG (List.mem_append_right _ (List.mem_of_getElem? (i := 691) rfl)) (by decide +kernel)
set_option maxRecDepth 100000 in
theorem k_262 : Cond.static y_Mo_raised ∈ ct_G := ct_ofG (List.mem_append_right _ (List.mem_of_getElem? (i := 690) rfl)) (by decide +kernel)
set_option maxRecDepth 100000 in
theorem k_263 : Cond.methodLink R_Mo 126 y_Mo_raised ∈ ct_G := ct_ofG (List.mem_append_right _ (List.mem_of_getElem? (i := 689) rfl)) (by decide +kernel)
set_option maxRecDepth 100000 in
theorem k_264 : Cond.code y_Mo_product b_Mo_product 3 (some .int) ∈ ct_G := ct_ofG (List.mem_append_right _ (List.mem_of_getElem? (i := 715) rfl)) (by decide +kernel)
set_option maxRecDepth 100000 in
theorem k_265 : Cond.instanceMethod y_Mo_product ∈ ct_G := ct_ofG (List.mem_append_right _ (List.mem_of_getElem? (i := 714) rfl)) (by decide +kernel)
set_option maxRecDepth 100000 in
theorem k_266 : Cond.selects R_Mo y_Mo_product y_Mo_product ∈ ct_G := ct_ofG (List.mem_append_left _ (List.mem_of_getElem? (i := 31) rfl)) (by decide +kernel)
set_option maxRecDepth 100000 in
theorem k_267 : Cond.methodLink R_Mo 130 y_Mo_product ∈ ct_G := ct_ofG (List.mem_append_right _ (List.mem_of_getElem? (i := 712) rfl)) (by decide +kernel)
set_option maxRecDepth 100000 in
theorem k_268 : Cond.code y_Mo_divisor b_Mo_divisor 10 (some .long) ∈ ct_G := ct_ofG (List.mem_append_right _ (List.mem_of_getElem? (i := 727) rfl)) (by decide +kernel)
set_option maxRecDepth 100000 in
theorem k_269 : Cond.static y_Mo_divisor ∈ ct_G := ct_ofG (List.mem_append_right _ (List.mem_of_getElem? (i := 726) rfl)) (by decide +kernel)
set_option maxRecDepth 100000 in
theorem k_270 : Cond.methodLink R_Mo 133 y_Mo_divisor ∈ ct_G := ct_ofG (List.mem_append_right _ (List.mem_of_getElem? (i := 725) rfl)) (by decide +kernel)
set_option maxRecDepth 100000 in
theorem k_271 : Cond.fieldLink R_Mo 41 "SquareSumsModel" "madeAbove" "[J" ∈ ct_G := ct_ofG (List.mem_append_right _ (List.mem_of_getElem? (i := 556) rfl)) (by decide +kernel)
set_option maxRecDepth 100000 in
theorem k_272 : Cond.fieldLink R_Mo 44 "SquareSumsModel" "madeBelow" "[J" ∈ ct_G := ct_ofG (List.mem_append_right _ (List.mem_of_getElem? (i := 557) rfl)) (by decide +kernel)
set_option maxRecDepth 100000 in
theorem k_273 : Cond.fieldLink R_Mo 38 "SquareSumsModel" "left" "[J" ∈ ct_G := ct_ofG (List.mem_append_right _ (List.mem_of_getElem? (i := 554) rfl)) (by decide +kernel)
set_option maxRecDepth 100000 in
theorem k_274 : Cond.fieldLink R_Mo 137 "SquareSumsModel" "madeSquares" "I" ∈ ct_G := ct_ofG (List.mem_append_right _ (List.mem_of_getElem? (i := 555) rfl)) (by decide +kernel)
set_option maxRecDepth 100000 in
theorem k_275 : Cond.constantLong R_Mo 140 2 ∈ ct_G := ct_ofG (List.mem_append_right _ (List.mem_of_getElem? (i := 720) rfl)) (by decide +kernel)
set_option maxRecDepth 100000 in
theorem k_276 : Cond.code y_Mo_tell b_Mo_tell 8 none ∈ ct_G := ct_ofG (List.mem_append_right _ (List.mem_of_getElem? (i := 724) rfl)) (by decide +kernel)
set_option maxRecDepth 100000 in
theorem k_277 : Cond.instanceMethod y_Mo_tell ∈ ct_G := ct_ofG (List.mem_append_right _ (List.mem_of_getElem? (i := 723) rfl)) (by decide +kernel)
set_option maxRecDepth 100000 in
theorem k_278 : Cond.selects R_Mo y_Mo_tell y_Mo_tell ∈ ct_G := ct_ofG (List.mem_append_left _ (List.mem_of_getElem? (i := 33) rfl)) (by decide +kernel)
set_option maxRecDepth 100000 in
theorem k_279 : Cond.methodLink R_Mo 142 y_Mo_tell ∈ ct_G := ct_ofG (List.mem_append_right _ (List.mem_of_getElem? (i := 721) rfl)) (by decide +kernel)
set_option maxRecDepth 100000 in
theorem k_280 : Cond.fieldLink R_Mo 146 "SquareSumsModel" "squares" "I" ∈ ct_G := ct_ofG (List.mem_append_right _ (List.mem_of_getElem? (i := 549) rfl)) (by decide +kernel)
set_option maxRecDepth 100000 in
theorem k_281 : Cond.fieldLink R_Mo 32 "SquareSumsModel" "rowAbove" "[J" ∈ ct_G := ct_ofG (List.mem_append_right _ (List.mem_of_getElem? (i := 552) rfl)) (by decide +kernel)
set_option maxRecDepth 100000 in
theorem k_282 : Cond.fieldLink R_Mo 35 "SquareSumsModel" "rowBelow" "[J" ∈ ct_G := ct_ofG (List.mem_append_right _ (List.mem_of_getElem? (i := 553) rfl)) (by decide +kernel)
set_option maxRecDepth 100000 in
theorem k_283 : Cond.fieldLink R_Mo 25 "SquareSumsModel" "weightAbove" "[J" ∈ ct_G := ct_ofG (List.mem_append_right _ (List.mem_of_getElem? (i := 550) rfl)) (by decide +kernel)
set_option maxRecDepth 100000 in
theorem k_284 : Cond.fieldLink R_Mo 29 "SquareSumsModel" "weightBelow" "[J" ∈ ct_G := ct_ofG (List.mem_append_right _ (List.mem_of_getElem? (i := 551) rfl)) (by decide +kernel)
set_option maxRecDepth 100000 in
theorem k_285 : Cond.code y_Mo_makes b_Mo_makes 7 (some .boolean) ∈ ct_G := ct_ofG (List.mem_append_right _ (List.mem_of_getElem? (i := 711) rfl)) (by decide +kernel)
set_option maxRecDepth 100000 in
theorem k_286 : Cond.instanceMethod y_Mo_makes ∈ ct_G := ct_ofG (List.mem_append_right _ (List.mem_of_getElem? (i := 710) rfl)) (by decide +kernel)
set_option maxRecDepth 100000 in
theorem k_287 : Cond.selects R_Mo y_Mo_makes y_Mo_makes ∈ ct_G := ct_ofG (List.mem_append_left _ (List.mem_of_getElem? (i := 30) rfl)) (by decide +kernel)
set_option maxRecDepth 100000 in
theorem k_288 : Cond.methodLink R_Mo 149 y_Mo_makes ∈ ct_G := ct_ofG (List.mem_append_right _ (List.mem_of_getElem? (i := 708) rfl)) (by decide +kernel)
set_option maxRecDepth 100000 in
theorem k_289 : Cond.code y_Mo_steps b_Mo_steps 9 (some .boolean) ∈ ct_G := ct_ofG (List.mem_append_right _ (List.mem_of_getElem? (i := 719) rfl)) (by decide +kernel)
set_option maxRecDepth 100000 in
theorem k_290 : Cond.instanceMethod y_Mo_steps ∈ ct_G := ct_ofG (List.mem_append_right _ (List.mem_of_getElem? (i := 718) rfl)) (by decide +kernel)
set_option maxRecDepth 100000 in
theorem k_291 : Cond.selects R_Mo y_Mo_steps y_Mo_steps ∈ ct_G := ct_ofG (List.mem_append_left _ (List.mem_of_getElem? (i := 32) rfl)) (by decide +kernel)
set_option maxRecDepth 100000 in
theorem k_292 : Cond.methodLink R_Mo 153 y_Mo_steps ∈ ct_G := ct_ofG (List.mem_append_right _ (List.mem_of_getElem? (i := 716) rfl)) (by decide +kernel)
set_option maxRecDepth 100000 in
theorem k_293 : Cond.code y_Mo_keep b_Mo_keep 2 none ∈ ct_G := ct_ofG (List.mem_append_right _ (List.mem_of_getElem? (i := 731) rfl)) (by decide +kernel)
set_option maxRecDepth 100000 in
theorem k_294 : Cond.instanceMethod y_Mo_keep ∈ ct_G := ct_ofG (List.mem_append_right _ (List.mem_of_getElem? (i := 730) rfl)) (by decide +kernel)
set_option maxRecDepth 100000 in
theorem k_295 : Cond.selects R_Mo y_Mo_keep y_Mo_keep ∈ ct_G := ct_ofG (List.mem_append_left _ (List.mem_of_getElem? (i := 34) rfl)) (by decide +kernel)
set_option maxRecDepth 100000 in
theorem k_296 : Cond.methodLink R_Mo 156 y_Mo_keep ∈ ct_G := ct_ofG (List.mem_append_right _ (List.mem_of_getElem? (i := 728) rfl)) (by decide +kernel)
set_option maxRecDepth 100000 in
theorem k_297 : Cond.code y_Mo_isNoSquare b_Mo_isNoSquare 2 (some .boolean) ∈ ct_G := ct_ofG (List.mem_append_right _ (List.mem_of_getElem? (i := 743) rfl)) (by decide +kernel)
set_option maxRecDepth 100000 in
theorem k_298 : Cond.instanceMethod y_Mo_isNoSquare ∈ ct_G := ct_ofG (List.mem_append_right _ (List.mem_of_getElem? (i := 742) rfl)) (by decide +kernel)
set_option maxRecDepth 100000 in
theorem k_299 : Cond.selects R_Mo y_Mo_isNoSquare y_Mo_isNoSquare ∈ ct_G := ct_ofG (List.mem_append_left _ (List.mem_of_getElem? (i := 35) rfl)) (by decide +kernel)
set_option maxRecDepth 100000 in
theorem k_300 : Cond.methodLink R_Mo 159 y_Mo_isNoSquare ∈ ct_G := ct_ofG (List.mem_append_right _ (List.mem_of_getElem? (i := 740) rfl)) (by decide +kernel)
set_option maxRecDepth 100000 in
theorem k_301 : Cond.fieldLink R_Mo 53 "SquareSumsModel" "hangFirst" "[I" ∈ ct_G := ct_ofG (List.mem_append_right _ (List.mem_of_getElem? (i := 561) rfl)) (by decide +kernel)
set_option maxRecDepth 100000 in
theorem k_302 : Cond.fieldLink R_Mo 56 "SquareSumsModel" "hangSecond" "[I" ∈ ct_G := ct_ofG (List.mem_append_right _ (List.mem_of_getElem? (i := 562) rfl)) (by decide +kernel)
set_option maxRecDepth 100000 in
theorem k_303 : Cond.fieldLink R_Mo 162 "SquareSumsModel" "frees" "I" ∈ ct_G := ct_ofG (List.mem_append_right _ (List.mem_of_getElem? (i := 558) rfl)) (by decide +kernel)
set_option maxRecDepth 100000 in
theorem k_304 : Cond.fieldLink R_Mo 47 "SquareSumsModel" "freeFirst" "[I" ∈ ct_G := ct_ofG (List.mem_append_right _ (List.mem_of_getElem? (i := 559) rfl)) (by decide +kernel)
set_option maxRecDepth 100000 in
theorem k_305 : Cond.fieldLink R_Mo 50 "SquareSumsModel" "freeSecond" "[I" ∈ ct_G := ct_ofG (List.mem_append_right _ (List.mem_of_getElem? (i := 560) rfl)) (by decide +kernel)
set_option maxRecDepth 100000 in
theorem k_306 : Cond.code y_Mo_pairs b_Mo_pairs 5 none ∈ ct_G := ct_ofG (List.mem_append_right _ (List.mem_of_getElem? (i := 755) rfl)) (by decide +kernel)
set_option maxRecDepth 100000 in
theorem k_307 : Cond.instanceMethod y_Mo_pairs ∈ ct_G := ct_ofG (List.mem_append_right _ (List.mem_of_getElem? (i := 754) rfl)) (by decide +kernel)
set_option maxRecDepth 100000 in
theorem k_308 : Cond.selects R_Mo y_Mo_pairs y_Mo_pairs ∈ ct_G := ct_ofG (List.mem_append_left _ (List.mem_of_getElem? (i := 36) rfl)) (by decide +kernel)
set_option maxRecDepth 100000 in
theorem k_309 : Cond.methodLink R_Mo 165 y_Mo_pairs ∈ ct_G := ct_ofG (List.mem_append_right _ (List.mem_of_getElem? (i := 752) rfl)) (by decide +kernel)
set_option maxRecDepth 100000 in
theorem k_310 : Cond.fieldLink R_Mo 59 "SquareSumsModel" "tried" "[I" ∈ ct_G := ct_ofG (List.mem_append_right _ (List.mem_of_getElem? (i := 563) rfl)) (by decide +kernel)
set_option maxRecDepth 100000 in
theorem k_311 : Cond.fieldLink R_Mo 62 "SquareSumsModel" "count" "[I" ∈ ct_G := ct_ofG (List.mem_append_right _ (List.mem_of_getElem? (i := 564) rfl)) (by decide +kernel)
set_option maxRecDepth 100000 in
theorem k_312 : Cond.code y_Mo_hangs b_Mo_hangs 5 (some .boolean) ∈ ct_G := ct_ofG (List.mem_append_right _ (List.mem_of_getElem? (i := 763) rfl)) (by decide +kernel)
set_option maxRecDepth 100000 in
theorem k_313 : Cond.instanceMethod y_Mo_hangs ∈ ct_G := ct_ofG (List.mem_append_right _ (List.mem_of_getElem? (i := 762) rfl)) (by decide +kernel)
set_option maxRecDepth 100000 in
theorem k_314 : Cond.selects R_Mo y_Mo_hangs y_Mo_hangs ∈ ct_G := ct_ofG (List.mem_append_left _ (List.mem_of_getElem? (i := 37) rfl)) (by decide +kernel)
set_option maxRecDepth 100000 in
theorem k_315 : Cond.methodLink R_Mo 168 y_Mo_hangs ∈ ct_G := ct_ofG (List.mem_append_right _ (List.mem_of_getElem? (i := 760) rfl)) (by decide +kernel)
set_option maxRecDepth 100000 in
theorem k_316 : Cond.code y_Mo_goesOn b_Mo_goesOn 3 (some .boolean) ∈ ct_G := ct_ofG (List.mem_append_right _ (List.mem_of_getElem? (i := 767) rfl)) (by decide +kernel)
set_option maxRecDepth 100000 in
theorem k_317 : Cond.instanceMethod y_Mo_goesOn ∈ ct_G := ct_ofG (List.mem_append_right _ (List.mem_of_getElem? (i := 766) rfl)) (by decide +kernel)
set_option maxRecDepth 100000 in
theorem k_318 : Cond.selects R_Mo y_Mo_goesOn y_Mo_goesOn ∈ ct_G := ct_ofG (List.mem_append_left _ (List.mem_of_getElem? (i := 38) rfl)) (by decide +kernel)
set_option maxRecDepth 100000 in
theorem k_319 : Cond.methodLink R_Mo 172 y_Mo_goesOn ∈ ct_G := ct_ofG (List.mem_append_right _ (List.mem_of_getElem? (i := 764) rfl)) (by decide +kernel)
set_option maxRecDepth 100000 in
theorem k_320 : Cond.classLink R_Sq 56 "java/lang/IllegalArgumentException" ∈ ct_G := ct_ofG (List.mem_append_right _ (List.mem_of_getElem? (i := 275) rfl)) (by decide +kernel)
set_option maxRecDepth 100000 in
theorem k_321 : Cond.instantiable "java/lang/IllegalArgumentException" 6 ∈ ct_G := ct_ofG (List.mem_append_right _ (List.mem_of_getElem? (i := 276) rfl)) (by decide +kernel)
set_option maxRecDepth 100000 in
theorem k_322 : Cond.initialized "java/lang/IllegalArgumentException" ∈ ct_G := ct_ofG (List.mem_append_right _ (List.mem_of_getElem? (i := 11) rfl)) (by decide +kernel)
set_option maxRecDepth 100000 in
theorem k_323 : Cond.classLink R_Sq 83 "java/lang/IndexOutOfBoundsException" ∈ ct_G := ct_ofG (List.mem_append_right _ (List.mem_of_getElem? (i := 359) rfl)) (by decide +kernel)
set_option maxRecDepth 100000 in
theorem k_324 : Cond.instantiable "java/lang/IndexOutOfBoundsException" 6 ∈ ct_G := ct_ofG (List.mem_append_right _ (List.mem_of_getElem? (i := 360) rfl)) (by decide +kernel)
set_option maxRecDepth 100000 in
theorem k_325 : Cond.initialized "java/lang/IndexOutOfBoundsException" ∈ ct_G := ct_ofG (List.mem_append_right _ (List.mem_of_getElem? (i := 12) rfl)) (by decide +kernel)
set_option maxRecDepth 100000 in
theorem k_326 : Cond.classLink R_Sq 112 "java/lang/IllegalStateException" ∈ ct_G := ct_ofG (List.mem_append_right _ (List.mem_of_getElem? (i := 402) rfl)) (by decide +kernel)
set_option maxRecDepth 100000 in
theorem k_327 : Cond.instantiable "java/lang/IllegalStateException" 6 ∈ ct_G := ct_ofG (List.mem_append_right _ (List.mem_of_getElem? (i := 403) rfl)) (by decide +kernel)
set_option maxRecDepth 100000 in
theorem k_328 : Cond.initialized "java/lang/IllegalStateException" ∈ ct_G := ct_ofG (List.mem_append_right _ (List.mem_of_getElem? (i := 13) rfl)) (by decide +kernel)
set_option maxRecDepth 100000 in
theorem n_0 : Cond.fieldLinkNest R_Hull 36 "SquareSums" "POWER_A" "[I" "SquareSums" ∈ ct_N := ct_ofN (List.mem_append_right _ (List.mem_of_getElem? (i := 171) rfl)) rfl
set_option maxRecDepth 100000 in
theorem n_1 : Cond.fieldLinkNest R_Hull 39 "SquareSums" "POWER_B" "[I" "SquareSums" ∈ ct_N := ct_ofN (List.mem_append_right _ (List.mem_of_getElem? (i := 173) rfl)) rfl
set_option maxRecDepth 100000 in
theorem n_2 : Cond.methodLinkNest R_Steps 23 y_Sq_cellOf "SquareSums" ∈ ct_N := ct_ofN (List.mem_append_right _ (List.mem_of_getElem? (i := 190) rfl)) rfl
set_option maxRecDepth 100000 in
theorem n_3 : Cond.fieldLinkNest R_Pairs 46 "SquareSums$Hull" "size" "I" "SquareSums" ∈ ct_N := ct_ofN (List.mem_append_right _ (List.mem_of_getElem? (i := 36) rfl)) rfl
set_option maxRecDepth 100000 in
theorem n_4 : Cond.fieldLinkNest R_Pairs 49 "SquareSums$Hull" "members" "[I" "SquareSums" ∈ ct_N := ct_ofN (List.mem_append_right _ (List.mem_of_getElem? (i := 33) rfl)) rfl
set_option maxRecDepth 100000 in
theorem n_5 : Cond.fieldLinkNest R_Pairs 63 "SquareSums" "POWER_A" "[I" "SquareSums" ∈ ct_N := ct_ofN (List.mem_append_right _ (List.mem_of_getElem? (i := 249) rfl)) rfl
set_option maxRecDepth 100000 in
theorem n_6 : Cond.fieldLinkNest R_Pairs 66 "SquareSums" "POWER_B" "[I" "SquareSums" ∈ ct_N := ct_ofN (List.mem_append_right _ (List.mem_of_getElem? (i := 250) rfl)) rfl
set_option maxRecDepth 100000 in
theorem n_7 : Cond.methodLinkNest R_Pairs 69 y_Sq_powerAt "SquareSums" ∈ ct_N := ct_ofN (List.mem_append_right _ (List.mem_of_getElem? (i := 251) rfl)) rfl
set_option maxRecDepth 100000 in
theorem n_8 : Cond.methodLinkNest R_Pairs 72 y_Sq_cellOf "SquareSums" ∈ ct_N := ct_ofN (List.mem_append_right _ (List.mem_of_getElem? (i := 258) rfl)) rfl
set_option maxRecDepth 100000 in
theorem n_9 : Cond.fieldLinkNest R_Search 55 "SquareSums$Pairs" "freeSize" "I" "SquareSums" ∈ ct_N := ct_ofN (List.mem_append_right _ (List.mem_of_getElem? (i := 74) rfl)) rfl
set_option maxRecDepth 100000 in
theorem n_10 : Cond.fieldLinkNest R_Search 67 "SquareSums$Pairs" "power" "[I" "SquareSums" ∈ ct_N := ct_ofN (List.mem_append_right _ (List.mem_of_getElem? (i := 63) rfl)) rfl
set_option maxRecDepth 100000 in
theorem n_11 : Cond.fieldLinkNest R_Search 70 "SquareSums$Pairs" "freePairs" "[I" "SquareSums" ∈ ct_N := ct_ofN (List.mem_append_right _ (List.mem_of_getElem? (i := 69) rfl)) rfl
set_option maxRecDepth 100000 in
theorem n_12 : Cond.fieldLinkNest R_Search 73 "SquareSums$Pairs" "size" "I" "SquareSums" ∈ ct_N := ct_ofN (List.mem_append_right _ (List.mem_of_getElem? (i := 72) rfl)) rfl
set_option maxRecDepth 100000 in
theorem n_13 : Cond.fieldLinkNest R_Search 76 "SquareSums$Pairs" "second" "[I" "SquareSums" ∈ ct_N := ct_ofN (List.mem_append_right _ (List.mem_of_getElem? (i := 59) rfl)) rfl
set_option maxRecDepth 100000 in
theorem n_14 : Cond.fieldLinkNest R_Search 86 "SquareSums$Pairs" "share" "[I" "SquareSums" ∈ ct_N := ct_ofN (List.mem_append_right _ (List.mem_of_getElem? (i := 65) rfl)) rfl
set_option maxRecDepth 100000 in
theorem n_15 : Cond.fieldLinkNest R_Search 89 "SquareSums$Pairs" "cell" "[I" "SquareSums" ∈ ct_N := ct_ofN (List.mem_append_right _ (List.mem_of_getElem? (i := 61) rfl)) rfl
set_option maxRecDepth 100000 in
theorem n_16 : Cond.fieldLinkNest R_Search 92 "SquareSums$Pairs" "hanging" "[I" "SquareSums" ∈ ct_N := ct_ofN (List.mem_append_right _ (List.mem_of_getElem? (i := 67) rfl)) rfl
set_option maxRecDepth 100000 in
theorem n_17 : Cond.methodLinkNest R_Search 95 y_Sq_within "SquareSums" ∈ ct_N := ct_ofN (List.mem_append_right _ (List.mem_of_getElem? (i := 509) rfl)) rfl
set_option maxRecDepth 100000 in
theorem n_18 : Cond.fieldLinkNest R_Sq 76 "SquareSums$Hull" "size" "I" "SquareSums" ∈ ct_N := ct_ofN (List.mem_append_right _ (List.mem_of_getElem? (i := 37) rfl)) rfl
set_option maxRecDepth 100000 in
theorem n_19 : Cond.fieldLinkNest R_Sq 90 "SquareSums$Hull" "members" "[I" "SquareSums" ∈ ct_N := ct_ofN (List.mem_append_right _ (List.mem_of_getElem? (i := 34) rfl)) rfl
set_option maxRecDepth 100000 in
theorem n_20 : Cond.fieldLinkNest R_Sq 117 "SquareSums$Steps" "size" "I" "SquareSums" ∈ ct_N := ct_ofN (List.mem_append_right _ (List.mem_of_getElem? (i := 104) rfl)) rfl
set_option maxRecDepth 100000 in
theorem n_21 : Cond.fieldLinkNest R_Sq 148 "SquareSums$Pairs" "freeSize" "I" "SquareSums" ∈ ct_N := ct_ofN (List.mem_append_right _ (List.mem_of_getElem? (i := 75) rfl)) rfl
set_option maxRecDepth 100000 in
theorem n_22 : Cond.fieldLinkNest R_Sq 157 "SquareSums$Search" "table" "[I" "SquareSums" ∈ ct_N := ct_ofN (List.mem_append_right _ (List.mem_of_getElem? (i := 122) rfl)) rfl
