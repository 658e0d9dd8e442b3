/-! CHECKS: code words, what is said of a method, of a class, of a link (laid by wip/gen/gen.py) -/
set_option maxRecDepth 100000 in
theorem rc_X0_init : Cond.code yX0_init cX0_init 1 none ∈ lw_tbl := List.mem_of_getElem? (i := 189) rfl
set_option maxRecDepth 100000 in
theorem rc_X0_begin : Cond.code yX0_begin cX0_begin 4 none ∈ lw_tbl := List.mem_of_getElem? (i := 430) rfl
set_option maxRecDepth 100000 in
theorem rc_X0_numberOf : Cond.code yX0_numberOf cX0_numberOf 2 (some .int) ∈ lw_tbl := List.mem_of_getElem? (i := 461) rfl
set_option maxRecDepth 100000 in
theorem rc_X0_isFull : Cond.code yX0_isFull cX0_isFull 1 (some .boolean) ∈ lw_tbl := List.mem_of_getElem? (i := 457) rfl
set_option maxRecDepth 100000 in
theorem rc_X0_put : Cond.code yX0_put cX0_put 2 (some .int) ∈ lw_tbl := List.mem_of_getElem? (i := 449) rfl
set_option maxRecDepth 100000 in
theorem rc_X0_last : Cond.code yX0_last cX0_last 1 (some .int) ∈ lw_tbl := List.mem_of_getElem? (i := 501) rfl
set_option maxRecDepth 100000 in
theorem rc_X0_take : Cond.code yX0_take cX0_take 1 (some .int) ∈ lw_tbl := List.mem_of_getElem? (i := 474) rfl
set_option maxRecDepth 100000 in
theorem rc_X0_joinCalled : Cond.code yX0_joinCalled cX0_joinCalled 2 none ∈ lw_tbl := List.mem_of_getElem? (i := 484) rfl
set_option maxRecDepth 100000 in
theorem rc_X1_init : Cond.code yX1_init cX1_init 1 none ∈ lw_tbl := List.mem_of_getElem? (i := 115) rfl
set_option maxRecDepth 100000 in
theorem rc_X1_fill : Cond.code yX1_fill cX1_fill 7 none ∈ lw_tbl := List.mem_of_getElem? (i := 561) rfl
set_option maxRecDepth 100000 in
theorem rc_X1_holdsFor : Cond.code yX1_holdsFor cX1_holdsFor 4 (some .boolean) ∈ lw_tbl := List.mem_of_getElem? (i := 509) rfl
set_option maxRecDepth 100000 in
theorem rc_X1_numbersAreAlike : Cond.code yX1_numbersAreAlike cX1_numbersAreAlike 3 (some .boolean) ∈ lw_tbl := List.mem_of_getElem? (i := 513) rfl
set_option maxRecDepth 100000 in
theorem rc_X1_storesAreAlike : Cond.code yX1_storesAreAlike cX1_storesAreAlike 3 (some .boolean) ∈ lw_tbl := List.mem_of_getElem? (i := 519) rfl
set_option maxRecDepth 100000 in
theorem rc_X1_fact : Cond.code yX1_fact cX1_fact 3 (some .int) ∈ lw_tbl := List.mem_of_getElem? (i := 607) rfl
set_option maxRecDepth 100000 in
theorem rc_X1_numberWas : Cond.code yX1_numberWas cX1_numberWas 2 (some .int) ∈ lw_tbl := List.mem_of_getElem? (i := 611) rfl
set_option maxRecDepth 100000 in
theorem rc_X1_storeWas : Cond.code yX1_storeWas cX1_storeWas 2 (some .int) ∈ lw_tbl := List.mem_of_getElem? (i := 615) rfl
set_option maxRecDepth 100000 in
theorem rc_X2_init : Cond.code yX2_init cX2_init 5 none ∈ lw_tbl := List.mem_of_getElem? (i := 182) rfl
set_option maxRecDepth 100000 in
theorem rc_X2_start : Cond.code yX2_start cX2_start 8 none ∈ lw_tbl := List.mem_of_getElem? (i := 426) rfl
set_option maxRecDepth 100000 in
theorem rc_X2_enter : Cond.code yX2_enter cX2_enter 7 (some .int) ∈ lw_tbl := List.mem_of_getElem? (i := 434) rfl
set_option maxRecDepth 100000 in
theorem rc_X2_fits : Cond.code yX2_fits cX2_fits 3 (some .boolean) ∈ lw_tbl := List.mem_of_getElem? (i := 533) rfl
set_option maxRecDepth 100000 in
theorem rc_X2_recall : Cond.code yX2_recall cX2_recall 3 (some .int) ∈ lw_tbl := List.mem_of_getElem? (i := 537) rfl
set_option maxRecDepth 100000 in
theorem rc_X2_walk : Cond.code yX2_walk cX2_walk 8 (some .int) ∈ lw_tbl := List.mem_of_getElem? (i := 439) rfl
set_option maxRecDepth 100000 in
theorem rc_X2_perform : Cond.code yX2_perform cX2_perform 5 (some .int) ∈ lw_tbl := List.mem_of_getElem? (i := 445) rfl
set_option maxRecDepth 100000 in
theorem rc_X2_readNumber : Cond.code yX2_readNumber cX2_readNumber 3 (some .int) ∈ lw_tbl := List.mem_of_getElem? (i := 453) rfl
set_option maxRecDepth 100000 in
theorem rc_X2_readStore : Cond.code yX2_readStore cX2_readStore 3 (some .int) ∈ lw_tbl := List.mem_of_getElem? (i := 465) rfl
set_option maxRecDepth 100000 in
theorem rc_X2_writeStore : Cond.code yX2_writeStore cX2_writeStore 3 (some .int) ∈ lw_tbl := List.mem_of_getElem? (i := 470) rfl
set_option maxRecDepth 100000 in
theorem rc_X2_callRoutine : Cond.code yX2_callRoutine cX2_callRoutine 9 (some .int) ∈ lw_tbl := List.mem_of_getElem? (i := 479) rfl
set_option maxRecDepth 100000 in
theorem rc_X2_combine : Cond.code yX2_combine cX2_combine 5 (some .int) ∈ lw_tbl := List.mem_of_getElem? (i := 488) rfl
set_option maxRecDepth 100000 in
theorem rc_X2_changeEnd : Cond.code yX2_changeEnd cX2_changeEnd 3 (some .int) ∈ lw_tbl := List.mem_of_getElem? (i := 492) rfl
set_option maxRecDepth 100000 in
theorem rc_X3_init : Cond.code yX3_init cX3_init 1 none ∈ lw_tbl := List.mem_of_getElem? (i := 65) rfl
set_option maxRecDepth 100000 in
theorem rc_X3_isFull : Cond.code yX3_isFull cX3_isFull 1 (some .boolean) ∈ lw_tbl := List.mem_of_getElem? (i := 319) rfl
set_option maxRecDepth 100000 in
theorem rc_X3_hasRoutine : Cond.code yX3_hasRoutine cX3_hasRoutine 2 (some .boolean) ∈ lw_tbl := List.mem_of_getElem? (i := 336) rfl
set_option maxRecDepth 100000 in
theorem rc_X3_lengthOf : Cond.code yX3_lengthOf cX3_lengthOf 2 (some .int) ∈ lw_tbl := List.mem_of_getElem? (i := 343) rfl
set_option maxRecDepth 100000 in
theorem rc_X3_codeOf : Cond.code yX3_codeOf cX3_codeOf 3 (some .int) ∈ lw_tbl := List.mem_of_getElem? (i := 382) rfl
set_option maxRecDepth 100000 in
theorem rc_X3_actingOf : Cond.code yX3_actingOf cX3_actingOf 2 (some .int) ∈ lw_tbl := List.mem_of_getElem? (i := 410) rfl
set_option maxRecDepth 100000 in
theorem rc_X3_readingOf : Cond.code yX3_readingOf cX3_readingOf 2 (some .int) ∈ lw_tbl := List.mem_of_getElem? (i := 418) rfl
set_option maxRecDepth 100000 in
theorem rc_X3_addRoutine : Cond.code yX3_addRoutine cX3_addRoutine 1 (some .int) ∈ lw_tbl := List.mem_of_getElem? (i := 327) rfl
set_option maxRecDepth 100000 in
theorem rc_X3_addCode : Cond.code yX3_addCode cX3_addCode 5 none ∈ lw_tbl := List.mem_of_getElem? (i := 348) rfl
set_option maxRecDepth 100000 in
theorem rc_X3_spreadToCallers : Cond.code yX3_spreadToCallers cX3_spreadToCallers 3 none ∈ lw_tbl := List.mem_of_getElem? (i := 353) rfl
set_option maxRecDepth 100000 in
theorem rc_X3_gatherFromCalled : Cond.code yX3_gatherFromCalled cX3_gatherFromCalled 3 none ∈ lw_tbl := List.mem_of_getElem? (i := 357) rfl
set_option maxRecDepth 100000 in
theorem rc_X3_keepable : Cond.code yX3_keepable cX3_keepable 1 (some .int) ∈ lw_tbl := List.mem_of_getElem? (i := 364) rfl
set_option maxRecDepth 100000 in
theorem rc_X3_firstKeepable : Cond.code yX3_firstKeepable cX3_firstKeepable 4 (some .int) ∈ lw_tbl := List.mem_of_getElem? (i := 368) rfl
set_option maxRecDepth 100000 in
theorem rc_X4_init : Cond.code yX4_init cX4_init 1 none ∈ lw_tbl := List.mem_of_getElem? (i := 270) rfl
set_option maxRecDepth 100000 in
theorem rc_X4_add : Cond.code yX4_add cX4_add 6 (some .boolean) ∈ lw_tbl := List.mem_of_getElem? (i := 623) rfl
set_option maxRecDepth 100000 in
theorem rc_X4_fact : Cond.code yX4_fact cX4_fact 3 (some .int) ∈ lw_tbl := List.mem_of_getElem? (i := 644) rfl
set_option maxRecDepth 100000 in
theorem rc_X5_init : Cond.code yX5_init cX5_init 2 none ∈ lw_tbl := List.mem_of_getElem? (i := 108) rfl
set_option maxRecDepth 100000 in
theorem rc_X5_has : Cond.code yX5_has cX5_has 2 (some .boolean) ∈ lw_tbl := List.mem_of_getElem? (i := 524) rfl
set_option maxRecDepth 100000 in
theorem rc_X5_at : Cond.code yX5_at cX5_at 2 (some (.object "WorthKeeping$Keepsake")) ∈ lw_tbl := List.mem_of_getElem? (i := 528) rfl
set_option maxRecDepth 100000 in
theorem rc_X5_firstThatHolds : Cond.code yX5_firstThatHolds cX5_firstThatHolds 5 (some .int) ∈ lw_tbl := List.mem_of_getElem? (i := 505) rfl
set_option maxRecDepth 100000 in
theorem rc_X5_touch : Cond.code yX5_touch cX5_touch 2 none ∈ lw_tbl := List.mem_of_getElem? (i := 541) rfl
set_option maxRecDepth 100000 in
theorem rc_X5_add : Cond.code yX5_add cX5_add 7 none ∈ lw_tbl := List.mem_of_getElem? (i := 545) rfl
set_option maxRecDepth 100000 in
theorem rc_X5_nextToGo : Cond.code yX5_nextToGo cX5_nextToGo 3 (some .int) ∈ lw_tbl := List.mem_of_getElem? (i := 549) rfl
set_option maxRecDepth 100000 in
theorem rc_X5_goesAheadOf : Cond.code yX5_goesAheadOf cX5_goesAheadOf 3 (some .boolean) ∈ lw_tbl := List.mem_of_getElem? (i := 553) rfl
set_option maxRecDepth 100000 in
theorem rc_X5_drop : Cond.code yX5_drop cX5_drop 4 none ∈ lw_tbl := List.mem_of_getElem? (i := 557) rfl
set_option maxRecDepth 100000 in
theorem rc_X5_dropAll : Cond.code yX5_dropAll cX5_dropAll 2 (some .int) ∈ lw_tbl := List.mem_of_getElem? (i := 323) rfl
set_option maxRecDepth 100000 in
theorem rc_X5_dropOf : Cond.code yX5_dropOf cX5_dropOf 3 none ∈ lw_tbl := List.mem_of_getElem? (i := 579) rfl
set_option maxRecDepth 100000 in
theorem rc_X5_furnish : Cond.code yX5_furnish cX5_furnish 5 (some .int) ∈ lw_tbl := List.mem_of_getElem? (i := 590) rfl
set_option maxRecDepth 100000 in
theorem rc_X6_init : Cond.code yX6_init cX6_init 1 none ∈ lw_tbl := List.mem_of_getElem? (i := 94) rfl
set_option maxRecDepth 100000 in
theorem rc_X6_valueOf : Cond.code yX6_valueOf cX6_valueOf 2 (some .int) ∈ lw_tbl := List.mem_of_getElem? (i := 390) rfl
set_option maxRecDepth 100000 in
theorem rc_X6_setValue : Cond.code yX6_setValue cX6_setValue 3 none ∈ lw_tbl := List.mem_of_getElem? (i := 394) rfl
set_option maxRecDepth 100000 in
theorem rc_X6_nextLot : Cond.code yX6_nextLot cX6_nextLot 1 (some .int) ∈ lw_tbl := List.mem_of_getElem? (i := 496) rfl
set_option maxRecDepth 100000 in
theorem rc_X6_copyFrom : Cond.code yX6_copyFrom cX6_copyFrom 3 none ∈ lw_tbl := List.mem_of_getElem? (i := 640) rfl
set_option maxRecDepth 100000 in
theorem rc_X7_init : Cond.code yX7_init cX7_init 1 none ∈ lw_tbl := List.mem_of_getElem? (i := 57) rfl
set_option maxRecDepth 100000 in
theorem rc_X7_routine : Cond.code yX7_routine cX7_routine 1 (some .int) ∈ lw_tbl := List.mem_of_getElem? (i := 315) rfl
set_option maxRecDepth 100000 in
theorem rc_X7_code : Cond.code yX7_code cX7_code 3 (some .int) ∈ lw_tbl := List.mem_of_getElem? (i := 332) rfl
set_option maxRecDepth 100000 in
theorem rc_X7_codeAt : Cond.code yX7_codeAt cX7_codeAt 3 (some .int) ∈ lw_tbl := List.mem_of_getElem? (i := 378) rfl
set_option maxRecDepth 100000 in
theorem rc_X7_store : Cond.code yX7_store cX7_store 4 (some .int) ∈ lw_tbl := List.mem_of_getElem? (i := 386) rfl
set_option maxRecDepth 100000 in
theorem rc_X7_held : Cond.code yX7_held cX7_held 2 (some .int) ∈ lw_tbl := List.mem_of_getElem? (i := 398) rfl
set_option maxRecDepth 100000 in
theorem rc_X7_lot : Cond.code yX7_lot cX7_lot 3 (some .int) ∈ lw_tbl := List.mem_of_getElem? (i := 402) rfl
set_option maxRecDepth 100000 in
theorem rc_X7_acting : Cond.code yX7_acting cX7_acting 2 (some .int) ∈ lw_tbl := List.mem_of_getElem? (i := 406) rfl
set_option maxRecDepth 100000 in
theorem rc_X7_reads : Cond.code yX7_reads cX7_reads 2 (some .int) ∈ lw_tbl := List.mem_of_getElem? (i := 414) rfl
set_option maxRecDepth 100000 in
theorem rc_X7_run : Cond.code yX7_run cX7_run 5 (some .int) ∈ lw_tbl := List.mem_of_getElem? (i := 422) rfl
set_option maxRecDepth 100000 in
theorem rc_X7_answer : Cond.code yX7_answer cX7_answer 1 (some .int) ∈ lw_tbl := List.mem_of_getElem? (i := 566) rfl
set_option maxRecDepth 100000 in
theorem rc_X7_ran : Cond.code yX7_ran cX7_ran 2 (some .int) ∈ lw_tbl := List.mem_of_getElem? (i := 570) rfl
set_option maxRecDepth 100000 in
theorem rc_X7_keep : Cond.code yX7_keep cX7_keep 4 (some .int) ∈ lw_tbl := List.mem_of_getElem? (i := 574) rfl
set_option maxRecDepth 100000 in
theorem rc_X7_room : Cond.code yX7_room cX7_room 3 (some .int) ∈ lw_tbl := List.mem_of_getElem? (i := 583) rfl
set_option maxRecDepth 100000 in
theorem rc_X7_forget : Cond.code yX7_forget cX7_forget 1 (some .int) ∈ lw_tbl := List.mem_of_getElem? (i := 597) rfl
set_option maxRecDepth 100000 in
theorem rc_X7_kept : Cond.code yX7_kept cX7_kept 4 (some .int) ∈ lw_tbl := List.mem_of_getElem? (i := 601) rfl
set_option maxRecDepth 100000 in
theorem rc_X7_log : Cond.code yX7_log cX7_log 5 (some .int) ∈ lw_tbl := List.mem_of_getElem? (i := 619) rfl
set_option maxRecDepth 100000 in
theorem rc_X7_clear : Cond.code yX7_clear cX7_clear 2 (some .int) ∈ lw_tbl := List.mem_of_getElem? (i := 627) rfl
set_option maxRecDepth 100000 in
theorem rc_X7_cost : Cond.code yX7_cost cX7_cost 3 (some .int) ∈ lw_tbl := List.mem_of_getElem? (i := 631) rfl
set_option maxRecDepth 100000 in
theorem rc_X7_best : Cond.code yX7_best cX7_best 10 (some .int) ∈ lw_tbl := List.mem_of_getElem? (i := 648) rfl
set_option maxRecDepth 100000 in
theorem rc_X7_told : Cond.code yX7_told cX7_told 2 (some .int) ∈ lw_tbl := List.mem_of_getElem? (i := 657) rfl
set_option maxRecDepth 100000 in
theorem rc_X7_tryOut : Cond.code yX7_tryOut cX7_tryOut 7 (some .int) ∈ lw_tbl := List.mem_of_getElem? (i := 636) rfl
set_option maxRecDepth 100000 in
theorem rc_X7_pick : Cond.code yX7_pick cX7_pick 5 (some .int) ∈ lw_tbl := List.mem_of_getElem? (i := 653) rfl
set_option maxRecDepth 100000 in
theorem rc_X7_isCode : Cond.code yX7_isCode cX7_isCode 2 (some .boolean) ∈ lw_tbl := List.mem_of_getElem? (i := 339) rfl
set_option maxRecDepth 100000 in
theorem rc_X7_isRoom : Cond.code yX7_isRoom cX7_isRoom 1 (some .boolean) ∈ lw_tbl := List.mem_of_getElem? (i := 586) rfl
set_option maxRecDepth 100000 in
theorem rc_X7_isSet : Cond.code yX7_isSet cX7_isSet 2 (some .boolean) ∈ lw_tbl := List.mem_of_getElem? (i := 360) rfl
set_option maxRecDepth 100000 in
theorem rc_X8_init : Cond.code yX8_init cX8_init 1 none ∈ lw_tbl := List.mem_of_getElem? (i := 662) rfl
set_option maxRecDepth 100000 in
theorem rc_X8_in : Cond.code yX8_in cX8_in 3 (some .boolean) ∈ lw_tbl := List.mem_of_getElem? (i := 821) rfl
set_option maxRecDepth 100000 in
theorem rc_X8_isRoutine : Cond.code yX8_isRoutine cX8_isRoutine 2 (some .boolean) ∈ lw_tbl := List.mem_of_getElem? (i := 818) rfl
set_option maxRecDepth 100000 in
theorem rc_X8_routine : Cond.code yX8_routine cX8_routine 1 (some .int) ∈ lw_tbl := List.mem_of_getElem? (i := 810) rfl
set_option maxRecDepth 100000 in
theorem rc_X8_isCode : Cond.code yX8_isCode cX8_isCode 1 (some .boolean) ∈ lw_tbl := List.mem_of_getElem? (i := 824) rfl
set_option maxRecDepth 100000 in
theorem rc_X8_code : Cond.code yX8_code cX8_code 4 (some .int) ∈ lw_tbl := List.mem_of_getElem? (i := 814) rfl
set_option maxRecDepth 100000 in
theorem rc_X8_codeAt : Cond.code yX8_codeAt cX8_codeAt 3 (some .int) ∈ lw_tbl := List.mem_of_getElem? (i := 836) rfl
set_option maxRecDepth 100000 in
theorem rc_X8_store : Cond.code yX8_store cX8_store 4 (some .int) ∈ lw_tbl := List.mem_of_getElem? (i := 840) rfl
set_option maxRecDepth 100000 in
theorem rc_X8_held : Cond.code yX8_held cX8_held 2 (some .int) ∈ lw_tbl := List.mem_of_getElem? (i := 844) rfl
set_option maxRecDepth 100000 in
theorem rc_X8_lot : Cond.code yX8_lot cX8_lot 3 (some .int) ∈ lw_tbl := List.mem_of_getElem? (i := 848) rfl
set_option maxRecDepth 100000 in
theorem rc_X8_called : Cond.code yX8_called cX8_called 8 (some .int) ∈ lw_tbl := List.mem_of_getElem? (i := 832) rfl
set_option maxRecDepth 100000 in
theorem rc_X8_actingOf : Cond.code yX8_actingOf cX8_actingOf 7 (some .int) ∈ lw_tbl := List.mem_of_getElem? (i := 828) rfl
set_option maxRecDepth 100000 in
theorem rc_X8_acting : Cond.code yX8_acting cX8_acting 2 (some .int) ∈ lw_tbl := List.mem_of_getElem? (i := 852) rfl
set_option maxRecDepth 100000 in
theorem rc_X8_reads : Cond.code yX8_reads cX8_reads 7 (some .int) ∈ lw_tbl := List.mem_of_getElem? (i := 856) rfl
set_option maxRecDepth 100000 in
theorem rc_X8_areStores : Cond.code yX8_areStores cX8_areStores 4 (some .boolean) ∈ lw_tbl := List.mem_of_getElem? (i := 880) rfl
set_option maxRecDepth 100000 in
theorem rc_X8_find : Cond.code yX8_find cX8_find 7 (some .int) ∈ lw_tbl := List.mem_of_getElem? (i := 876) rfl
set_option maxRecDepth 100000 in
theorem rc_X8_copy : Cond.code yX8_copy cX8_copy 4 none ∈ lw_tbl := List.mem_of_getElem? (i := 908) rfl
set_option maxRecDepth 100000 in
theorem rc_X8_letGo : Cond.code yX8_letGo cX8_letGo 3 none ∈ lw_tbl := List.mem_of_getElem? (i := 904) rfl
set_option maxRecDepth 100000 in
theorem rc_X8_goes : Cond.code yX8_goes cX8_goes 5 (some .int) ∈ lw_tbl := List.mem_of_getElem? (i := 900) rfl
set_option maxRecDepth 100000 in
theorem rc_X8_keepNow : Cond.code yX8_keepNow cX8_keepNow 4 none ∈ lw_tbl := List.mem_of_getElem? (i := 896) rfl
set_option maxRecDepth 100000 in
theorem rc_X8_comes : Cond.code yX8_comes cX8_comes 2 none ∈ lw_tbl := List.mem_of_getElem? (i := 888) rfl
set_option maxRecDepth 100000 in
theorem rc_X8_around : Cond.code yX8_around cX8_around 3 none ∈ lw_tbl := List.mem_of_getElem? (i := 884) rfl
set_option maxRecDepth 100000 in
theorem rc_X8_enter : Cond.code yX8_enter cX8_enter 6 none ∈ lw_tbl := List.mem_of_getElem? (i := 872) rfl
set_option maxRecDepth 100000 in
theorem rc_X8_leave : Cond.code yX8_leave cX8_leave 2 none ∈ lw_tbl := List.mem_of_getElem? (i := 892) rfl
set_option maxRecDepth 100000 in
theorem rc_X8_refuse : Cond.code yX8_refuse cX8_refuse 2 none ∈ lw_tbl := List.mem_of_getElem? (i := 916) rfl
set_option maxRecDepth 100000 in
theorem rc_X8_put : Cond.code yX8_put cX8_put 3 none ∈ lw_tbl := List.mem_of_getElem? (i := 923) rfl
set_option maxRecDepth 100000 in
theorem rc_X8_needs : Cond.code yX8_needs cX8_needs 1 (some .int) ∈ lw_tbl := List.mem_of_getElem? (i := 919) rfl
set_option maxRecDepth 100000 in
theorem rc_X8_step : Cond.code yX8_step cX8_step 5 none ∈ lw_tbl := List.mem_of_getElem? (i := 912) rfl
set_option maxRecDepth 100000 in
theorem rc_X8_calls : Cond.code yX8_calls cX8_calls 4 none ∈ lw_tbl := List.mem_of_getElem? (i := 927) rfl
set_option maxRecDepth 100000 in
theorem rc_X8_acts : Cond.code yX8_acts cX8_acts 6 none ∈ lw_tbl := List.mem_of_getElem? (i := 931) rfl
set_option maxRecDepth 100000 in
theorem rc_X8_go : Cond.code yX8_go cX8_go 8 none ∈ lw_tbl := List.mem_of_getElem? (i := 868) rfl
set_option maxRecDepth 100000 in
theorem rc_X8_toldSet : Cond.code yX8_toldSet cX8_toldSet 3 (some .int) ∈ lw_tbl := List.mem_of_getElem? (i := 864) rfl
set_option maxRecDepth 100000 in
theorem rc_X8_run : Cond.code yX8_run cX8_run 5 (some .int) ∈ lw_tbl := List.mem_of_getElem? (i := 860) rfl
set_option maxRecDepth 100000 in
theorem rc_X8_answer : Cond.code yX8_answer cX8_answer 1 (some .int) ∈ lw_tbl := List.mem_of_getElem? (i := 936) rfl
set_option maxRecDepth 100000 in
theorem rc_X8_ran : Cond.code yX8_ran cX8_ran 2 (some .int) ∈ lw_tbl := List.mem_of_getElem? (i := 940) rfl
set_option maxRecDepth 100000 in
theorem rc_X8_keep : Cond.code yX8_keep cX8_keep 5 (some .int) ∈ lw_tbl := List.mem_of_getElem? (i := 944) rfl
set_option maxRecDepth 100000 in
theorem rc_X8_room : Cond.code yX8_room cX8_room 4 (some .int) ∈ lw_tbl := List.mem_of_getElem? (i := 948) rfl
set_option maxRecDepth 100000 in
theorem rc_X8_forget : Cond.code yX8_forget cX8_forget 2 (some .int) ∈ lw_tbl := List.mem_of_getElem? (i := 952) rfl
set_option maxRecDepth 100000 in
theorem rc_X8_kept : Cond.code yX8_kept cX8_kept 3 (some .int) ∈ lw_tbl := List.mem_of_getElem? (i := 956) rfl
set_option maxRecDepth 100000 in
theorem rc_X8_log : Cond.code yX8_log cX8_log 5 (some .int) ∈ lw_tbl := List.mem_of_getElem? (i := 960) rfl
set_option maxRecDepth 100000 in
theorem rc_X8_clear : Cond.code yX8_clear cX8_clear 2 (some .int) ∈ lw_tbl := List.mem_of_getElem? (i := 964) rfl
set_option maxRecDepth 100000 in
theorem rc_X8_pure : Cond.code yX8_pure cX8_pure 3 (some .int) ∈ lw_tbl := List.mem_of_getElem? (i := 972) rfl
set_option maxRecDepth 100000 in
theorem rc_X8_costOf : Cond.code yX8_costOf cX8_costOf 5 (some .int) ∈ lw_tbl := List.mem_of_getElem? (i := 976) rfl
set_option maxRecDepth 100000 in
theorem rc_X8_cost : Cond.code yX8_cost cX8_cost 3 (some .int) ∈ lw_tbl := List.mem_of_getElem? (i := 968) rfl
set_option maxRecDepth 100000 in
theorem rc_X8_bits : Cond.code yX8_bits cX8_bits 3 (some .int) ∈ lw_tbl := List.mem_of_getElem? (i := 983) rfl
set_option maxRecDepth 100000 in
theorem rc_X8_best : Cond.code yX8_best cX8_best 9 (some .int) ∈ lw_tbl := List.mem_of_getElem? (i := 980) rfl
set_option maxRecDepth 100000 in
theorem rc_X8_told : Cond.code yX8_told cX8_told 2 (some .int) ∈ lw_tbl := List.mem_of_getElem? (i := 987) rfl
set_option maxRecDepth 100000 in
theorem rc_J6_bitCount_0f7a4 : Cond.code yJ6_bitCount_0f7a4 cJ6_bitCount_0f7a4 1 (some .int) ∈ lw_tbl := List.mem_of_getElem? (i := 371) rfl
def rk_P0 (M : rk_M) : Prop := Cond.code M.1 M.2.1 M.2.2.1 M.2.2.2.1 ∈ lw_tbl ∧ ∀ q ∈ M.2.2.2.2.2, decode M.2.1 q.1 = .ok q.2 ∧ rk_lk q.2.1 q.2.2 = true
theorem rk_P0_0 : ∀ M ∈ rk_Ms_0, rk_P0 M := List.forall_mem_cons.mpr ⟨⟨rc_X0_init, rd_X0_init⟩, List.forall_mem_cons.mpr ⟨⟨rc_X0_begin, rd_X0_begin⟩, List.forall_mem_cons.mpr ⟨⟨rc_X0_numberOf, rd_X0_numberOf⟩, List.forall_mem_cons.mpr ⟨⟨rc_X0_isFull, rd_X0_isFull⟩, List.forall_mem_cons.mpr ⟨⟨rc_X0_put, rd_X0_put⟩, List.forall_mem_cons.mpr ⟨⟨rc_X0_last, rd_X0_last⟩, List.forall_mem_cons.mpr ⟨⟨rc_X0_take, rd_X0_take⟩, List.forall_mem_cons.mpr ⟨⟨rc_X0_joinCalled, rd_X0_joinCalled⟩, List.forall_mem_cons.mpr ⟨⟨rc_X1_init, rd_X1_init⟩, List.forall_mem_cons.mpr ⟨⟨rc_X1_fill, rd_X1_fill⟩, List.forall_mem_cons.mpr ⟨⟨rc_X1_holdsFor, rd_X1_holdsFor⟩, List.forall_mem_cons.mpr ⟨⟨rc_X1_numbersAreAlike, rd_X1_numbersAreAlike⟩, List.forall_mem_cons.mpr ⟨⟨rc_X1_storesAreAlike, rd_X1_storesAreAlike⟩, List.forall_mem_cons.mpr ⟨⟨rc_X1_fact, rd_X1_fact⟩, List.forall_mem_cons.mpr ⟨⟨rc_X1_numberWas, rd_X1_numberWas⟩, List.forall_mem_cons.mpr ⟨⟨rc_X1_storeWas, rd_X1_storeWas⟩, fun _ h => absurd h List.not_mem_nil⟩⟩⟩⟩⟩⟩⟩⟩⟩⟩⟩⟩⟩⟩⟩⟩
theorem rk_P0_1 : ∀ M ∈ rk_Ms_1, rk_P0 M := List.forall_mem_cons.mpr ⟨⟨rc_X2_init, rd_X2_init⟩, List.forall_mem_cons.mpr ⟨⟨rc_X2_start, rd_X2_start⟩, List.forall_mem_cons.mpr ⟨⟨rc_X2_enter, rd_X2_enter⟩, List.forall_mem_cons.mpr ⟨⟨rc_X2_fits, rd_X2_fits⟩, List.forall_mem_cons.mpr ⟨⟨rc_X2_recall, rd_X2_recall⟩, List.forall_mem_cons.mpr ⟨⟨rc_X2_walk, rd_X2_walk⟩, List.forall_mem_cons.mpr ⟨⟨rc_X2_perform, rd_X2_perform⟩, List.forall_mem_cons.mpr ⟨⟨rc_X2_readNumber, rd_X2_readNumber⟩, List.forall_mem_cons.mpr ⟨⟨rc_X2_readStore, rd_X2_readStore⟩, List.forall_mem_cons.mpr ⟨⟨rc_X2_writeStore, rd_X2_writeStore⟩, List.forall_mem_cons.mpr ⟨⟨rc_X2_callRoutine, rd_X2_callRoutine⟩, List.forall_mem_cons.mpr ⟨⟨rc_X2_combine, rd_X2_combine⟩, List.forall_mem_cons.mpr ⟨⟨rc_X2_changeEnd, rd_X2_changeEnd⟩, List.forall_mem_cons.mpr ⟨⟨rc_X3_init, rd_X3_init⟩, List.forall_mem_cons.mpr ⟨⟨rc_X3_isFull, rd_X3_isFull⟩, List.forall_mem_cons.mpr ⟨⟨rc_X3_hasRoutine, rd_X3_hasRoutine⟩, fun _ h => absurd h List.not_mem_nil⟩⟩⟩⟩⟩⟩⟩⟩⟩⟩⟩⟩⟩⟩⟩⟩
theorem rk_P0_2 : ∀ M ∈ rk_Ms_2, rk_P0 M := List.forall_mem_cons.mpr ⟨⟨rc_X3_lengthOf, rd_X3_lengthOf⟩, List.forall_mem_cons.mpr ⟨⟨rc_X3_codeOf, rd_X3_codeOf⟩, List.forall_mem_cons.mpr ⟨⟨rc_X3_actingOf, rd_X3_actingOf⟩, List.forall_mem_cons.mpr ⟨⟨rc_X3_readingOf, rd_X3_readingOf⟩, List.forall_mem_cons.mpr ⟨⟨rc_X3_addRoutine, rd_X3_addRoutine⟩, List.forall_mem_cons.mpr ⟨⟨rc_X3_addCode, rd_X3_addCode⟩, List.forall_mem_cons.mpr ⟨⟨rc_X3_spreadToCallers, rd_X3_spreadToCallers⟩, List.forall_mem_cons.mpr ⟨⟨rc_X3_gatherFromCalled, rd_X3_gatherFromCalled⟩, List.forall_mem_cons.mpr ⟨⟨rc_X3_keepable, rd_X3_keepable⟩, List.forall_mem_cons.mpr ⟨⟨rc_X3_firstKeepable, rd_X3_firstKeepable⟩, List.forall_mem_cons.mpr ⟨⟨rc_X4_init, rd_X4_init⟩, List.forall_mem_cons.mpr ⟨⟨rc_X4_add, rd_X4_add⟩, List.forall_mem_cons.mpr ⟨⟨rc_X4_fact, rd_X4_fact⟩, List.forall_mem_cons.mpr ⟨⟨rc_X5_init, rd_X5_init⟩, List.forall_mem_cons.mpr ⟨⟨rc_X5_has, rd_X5_has⟩, List.forall_mem_cons.mpr ⟨⟨rc_X5_at, rd_X5_at⟩, fun _ h => absurd h List.not_mem_nil⟩⟩⟩⟩⟩⟩⟩⟩⟩⟩⟩⟩⟩⟩⟩⟩
theorem rk_P0_3 : ∀ M ∈ rk_Ms_3, rk_P0 M := List.forall_mem_cons.mpr ⟨⟨rc_X5_firstThatHolds, rd_X5_firstThatHolds⟩, List.forall_mem_cons.mpr ⟨⟨rc_X5_touch, rd_X5_touch⟩, List.forall_mem_cons.mpr ⟨⟨rc_X5_add, rd_X5_add⟩, List.forall_mem_cons.mpr ⟨⟨rc_X5_nextToGo, rd_X5_nextToGo⟩, List.forall_mem_cons.mpr ⟨⟨rc_X5_goesAheadOf, rd_X5_goesAheadOf⟩, List.forall_mem_cons.mpr ⟨⟨rc_X5_drop, rd_X5_drop⟩, List.forall_mem_cons.mpr ⟨⟨rc_X5_dropAll, rd_X5_dropAll⟩, List.forall_mem_cons.mpr ⟨⟨rc_X5_dropOf, rd_X5_dropOf⟩, List.forall_mem_cons.mpr ⟨⟨rc_X5_furnish, rd_X5_furnish⟩, List.forall_mem_cons.mpr ⟨⟨rc_X6_init, rd_X6_init⟩, List.forall_mem_cons.mpr ⟨⟨rc_X6_valueOf, rd_X6_valueOf⟩, List.forall_mem_cons.mpr ⟨⟨rc_X6_setValue, rd_X6_setValue⟩, List.forall_mem_cons.mpr ⟨⟨rc_X6_nextLot, rd_X6_nextLot⟩, List.forall_mem_cons.mpr ⟨⟨rc_X6_copyFrom, rd_X6_copyFrom⟩, List.forall_mem_cons.mpr ⟨⟨rc_X7_init, rd_X7_init⟩, List.forall_mem_cons.mpr ⟨⟨rc_X7_routine, rd_X7_routine⟩, fun _ h => absurd h List.not_mem_nil⟩⟩⟩⟩⟩⟩⟩⟩⟩⟩⟩⟩⟩⟩⟩⟩
theorem rk_P0_4 : ∀ M ∈ rk_Ms_4, rk_P0 M := List.forall_mem_cons.mpr ⟨⟨rc_X7_code, rd_X7_code⟩, List.forall_mem_cons.mpr ⟨⟨rc_X7_codeAt, rd_X7_codeAt⟩, List.forall_mem_cons.mpr ⟨⟨rc_X7_store, rd_X7_store⟩, List.forall_mem_cons.mpr ⟨⟨rc_X7_held, rd_X7_held⟩, List.forall_mem_cons.mpr ⟨⟨rc_X7_lot, rd_X7_lot⟩, List.forall_mem_cons.mpr ⟨⟨rc_X7_acting, rd_X7_acting⟩, List.forall_mem_cons.mpr ⟨⟨rc_X7_reads, rd_X7_reads⟩, List.forall_mem_cons.mpr ⟨⟨rc_X7_run, rd_X7_run⟩, List.forall_mem_cons.mpr ⟨⟨rc_X7_answer, rd_X7_answer⟩, List.forall_mem_cons.mpr ⟨⟨rc_X7_ran, rd_X7_ran⟩, List.forall_mem_cons.mpr ⟨⟨rc_X7_keep, rd_X7_keep⟩, List.forall_mem_cons.mpr ⟨⟨rc_X7_room, rd_X7_room⟩, List.forall_mem_cons.mpr ⟨⟨rc_X7_forget, rd_X7_forget⟩, List.forall_mem_cons.mpr ⟨⟨rc_X7_kept, rd_X7_kept⟩, List.forall_mem_cons.mpr ⟨⟨rc_X7_log, rd_X7_log⟩, List.forall_mem_cons.mpr ⟨⟨rc_X7_clear, rd_X7_clear⟩, fun _ h => absurd h List.not_mem_nil⟩⟩⟩⟩⟩⟩⟩⟩⟩⟩⟩⟩⟩⟩⟩⟩
theorem rk_P0_5 : ∀ M ∈ rk_Ms_5, rk_P0 M := List.forall_mem_cons.mpr ⟨⟨rc_X7_cost, rd_X7_cost⟩, List.forall_mem_cons.mpr ⟨⟨rc_X7_best, rd_X7_best⟩, List.forall_mem_cons.mpr ⟨⟨rc_X7_told, rd_X7_told⟩, List.forall_mem_cons.mpr ⟨⟨rc_X7_tryOut, rd_X7_tryOut⟩, List.forall_mem_cons.mpr ⟨⟨rc_X7_pick, rd_X7_pick⟩, List.forall_mem_cons.mpr ⟨⟨rc_X7_isCode, rd_X7_isCode⟩, List.forall_mem_cons.mpr ⟨⟨rc_X7_isRoom, rd_X7_isRoom⟩, List.forall_mem_cons.mpr ⟨⟨rc_X7_isSet, rd_X7_isSet⟩, List.forall_mem_cons.mpr ⟨⟨rc_X8_init, rd_X8_init⟩, List.forall_mem_cons.mpr ⟨⟨rc_X8_in, rd_X8_in⟩, List.forall_mem_cons.mpr ⟨⟨rc_X8_isRoutine, rd_X8_isRoutine⟩, List.forall_mem_cons.mpr ⟨⟨rc_X8_routine, rd_X8_routine⟩, List.forall_mem_cons.mpr ⟨⟨rc_X8_isCode, rd_X8_isCode⟩, List.forall_mem_cons.mpr ⟨⟨rc_X8_code, rd_X8_code⟩, List.forall_mem_cons.mpr ⟨⟨rc_X8_codeAt, rd_X8_codeAt⟩, List.forall_mem_cons.mpr ⟨⟨rc_X8_store, rd_X8_store⟩, fun _ h => absurd h List.not_mem_nil⟩⟩⟩⟩⟩⟩⟩⟩⟩⟩⟩⟩⟩⟩⟩⟩
theorem rk_P0_6 : ∀ M ∈ rk_Ms_6, rk_P0 M := List.forall_mem_cons.mpr ⟨⟨rc_X8_held, rd_X8_held⟩, List.forall_mem_cons.mpr ⟨⟨rc_X8_lot, rd_X8_lot⟩, List.forall_mem_cons.mpr ⟨⟨rc_X8_called, rd_X8_called⟩, List.forall_mem_cons.mpr ⟨⟨rc_X8_actingOf, rd_X8_actingOf⟩, List.forall_mem_cons.mpr ⟨⟨rc_X8_acting, rd_X8_acting⟩, List.forall_mem_cons.mpr ⟨⟨rc_X8_reads, rd_X8_reads⟩, List.forall_mem_cons.mpr ⟨⟨rc_X8_areStores, rd_X8_areStores⟩, List.forall_mem_cons.mpr ⟨⟨rc_X8_find, rd_X8_find⟩, List.forall_mem_cons.mpr ⟨⟨rc_X8_copy, rd_X8_copy⟩, List.forall_mem_cons.mpr ⟨⟨rc_X8_letGo, rd_X8_letGo⟩, List.forall_mem_cons.mpr ⟨⟨rc_X8_goes, rd_X8_goes⟩, List.forall_mem_cons.mpr ⟨⟨rc_X8_keepNow, rd_X8_keepNow⟩, List.forall_mem_cons.mpr ⟨⟨rc_X8_comes, rd_X8_comes⟩, List.forall_mem_cons.mpr ⟨⟨rc_X8_around, rd_X8_around⟩, List.forall_mem_cons.mpr ⟨⟨rc_X8_enter, rd_X8_enter⟩, List.forall_mem_cons.mpr ⟨⟨rc_X8_leave, rd_X8_leave⟩, fun _ h => absurd h List.not_mem_nil⟩⟩⟩⟩⟩⟩⟩⟩⟩⟩⟩⟩⟩⟩⟩⟩
theorem rk_P0_7 : ∀ M ∈ rk_Ms_7, rk_P0 M := List.forall_mem_cons.mpr ⟨⟨rc_X8_refuse, rd_X8_refuse⟩, List.forall_mem_cons.mpr ⟨⟨rc_X8_put, rd_X8_put⟩, List.forall_mem_cons.mpr ⟨⟨rc_X8_needs, rd_X8_needs⟩, List.forall_mem_cons.mpr ⟨⟨rc_X8_step, rd_X8_step⟩, List.forall_mem_cons.mpr ⟨⟨rc_X8_calls, rd_X8_calls⟩, List.forall_mem_cons.mpr ⟨⟨rc_X8_acts, rd_X8_acts⟩, List.forall_mem_cons.mpr ⟨⟨rc_X8_go, rd_X8_go⟩, List.forall_mem_cons.mpr ⟨⟨rc_X8_toldSet, rd_X8_toldSet⟩, List.forall_mem_cons.mpr ⟨⟨rc_X8_run, rd_X8_run⟩, List.forall_mem_cons.mpr ⟨⟨rc_X8_answer, rd_X8_answer⟩, List.forall_mem_cons.mpr ⟨⟨rc_X8_ran, rd_X8_ran⟩, List.forall_mem_cons.mpr ⟨⟨rc_X8_keep, rd_X8_keep⟩, List.forall_mem_cons.mpr ⟨⟨rc_X8_room, rd_X8_room⟩, List.forall_mem_cons.mpr ⟨⟨rc_X8_forget, rd_X8_forget⟩, List.forall_mem_cons.mpr ⟨⟨rc_X8_kept, rd_X8_kept⟩, List.forall_mem_cons.mpr ⟨⟨rc_X8_log, rd_X8_log⟩, fun _ h => absurd h List.not_mem_nil⟩⟩⟩⟩⟩⟩⟩⟩⟩⟩⟩⟩⟩⟩⟩⟩
theorem rk_P0_8 : ∀ M ∈ rk_Ms_8, rk_P0 M := List.forall_mem_cons.mpr ⟨⟨rc_X8_clear, rd_X8_clear⟩, List.forall_mem_cons.mpr ⟨⟨rc_X8_pure, rd_X8_pure⟩, List.forall_mem_cons.mpr ⟨⟨rc_X8_costOf, rd_X8_costOf⟩, List.forall_mem_cons.mpr ⟨⟨rc_X8_cost, rd_X8_cost⟩, List.forall_mem_cons.mpr ⟨⟨rc_X8_bits, rd_X8_bits⟩, List.forall_mem_cons.mpr ⟨⟨rc_X8_best, rd_X8_best⟩, List.forall_mem_cons.mpr ⟨⟨rc_X8_told, rd_X8_told⟩, List.forall_mem_cons.mpr ⟨⟨rc_J6_bitCount_0f7a4, rd_J6_bitCount_0f7a4⟩, fun _ h => absurd h List.not_mem_nil⟩⟩⟩⟩⟩⟩⟩⟩
theorem rk_P0_ok : ∀ M ∈ rk_Ms, rk_P0 M := List.forall_mem_append.mpr ⟨rk_P0_0, List.forall_mem_append.mpr ⟨rk_P0_1, List.forall_mem_append.mpr ⟨rk_P0_2, List.forall_mem_append.mpr ⟨rk_P0_3, List.forall_mem_append.mpr ⟨rk_P0_4, List.forall_mem_append.mpr ⟨rk_P0_5, List.forall_mem_append.mpr ⟨rk_P0_6, List.forall_mem_append.mpr ⟨rk_P0_7, rk_P0_8⟩⟩⟩⟩⟩⟩⟩⟩
set_option maxRecDepth 100000 in
theorem ri_X0_init : Cond.instanceMethod yX0_init ∈ lw_tbl := List.mem_of_getElem? (i := 188) rfl
theorem rp_X0_init : (parseMethodDescriptor yX0_init.desc).map (fun d => d.parameters.length) = some 0 := by decide +kernel
set_option maxRecDepth 100000 in
theorem ri_X0_begin : Cond.instanceMethod yX0_begin ∈ lw_tbl := List.mem_of_getElem? (i := 428) rfl
set_option maxRecDepth 100000 in
theorem rl_X0_begin : Cond.selects RX0 yX0_begin yX0_begin ∈ lw_tbl := List.mem_of_getElem? (i := 429) rfl
theorem rp_X0_begin : (parseMethodDescriptor yX0_begin.desc).map (fun d => d.parameters.length) = some 3 := by decide +kernel
set_option maxRecDepth 100000 in
theorem ri_X0_numberOf : Cond.instanceMethod yX0_numberOf ∈ lw_tbl := List.mem_of_getElem? (i := 459) rfl
set_option maxRecDepth 100000 in
theorem rl_X0_numberOf : Cond.selects RX0 yX0_numberOf yX0_numberOf ∈ lw_tbl := List.mem_of_getElem? (i := 460) rfl
theorem rp_X0_numberOf : (parseMethodDescriptor yX0_numberOf.desc).map (fun d => d.parameters.length) = some 1 := by decide +kernel
set_option maxRecDepth 100000 in
theorem ri_X0_isFull : Cond.instanceMethod yX0_isFull ∈ lw_tbl := List.mem_of_getElem? (i := 455) rfl
set_option maxRecDepth 100000 in
theorem rl_X0_isFull : Cond.selects RX0 yX0_isFull yX0_isFull ∈ lw_tbl := List.mem_of_getElem? (i := 456) rfl
theorem rp_X0_isFull : (parseMethodDescriptor yX0_isFull.desc).map (fun d => d.parameters.length) = some 0 := by decide +kernel
set_option maxRecDepth 100000 in
theorem ri_X0_put : Cond.instanceMethod yX0_put ∈ lw_tbl := List.mem_of_getElem? (i := 447) rfl
set_option maxRecDepth 100000 in
theorem rl_X0_put : Cond.selects RX0 yX0_put yX0_put ∈ lw_tbl := List.mem_of_getElem? (i := 448) rfl
theorem rp_X0_put : (parseMethodDescriptor yX0_put.desc).map (fun d => d.parameters.length) = some 1 := by decide +kernel
set_option maxRecDepth 100000 in
theorem ri_X0_last : Cond.instanceMethod yX0_last ∈ lw_tbl := List.mem_of_getElem? (i := 499) rfl
set_option maxRecDepth 100000 in
theorem rl_X0_last : Cond.selects RX0 yX0_last yX0_last ∈ lw_tbl := List.mem_of_getElem? (i := 500) rfl
theorem rp_X0_last : (parseMethodDescriptor yX0_last.desc).map (fun d => d.parameters.length) = some 0 := by decide +kernel
set_option maxRecDepth 100000 in
theorem ri_X0_take : Cond.instanceMethod yX0_take ∈ lw_tbl := List.mem_of_getElem? (i := 472) rfl
set_option maxRecDepth 100000 in
theorem rl_X0_take : Cond.selects RX0 yX0_take yX0_take ∈ lw_tbl := List.mem_of_getElem? (i := 473) rfl
theorem rp_X0_take : (parseMethodDescriptor yX0_take.desc).map (fun d => d.parameters.length) = some 0 := by decide +kernel
set_option maxRecDepth 100000 in
theorem ri_X0_joinCalled : Cond.instanceMethod yX0_joinCalled ∈ lw_tbl := List.mem_of_getElem? (i := 482) rfl
set_option maxRecDepth 100000 in
theorem rl_X0_joinCalled : Cond.selects RX0 yX0_joinCalled yX0_joinCalled ∈ lw_tbl := List.mem_of_getElem? (i := 483) rfl
theorem rp_X0_joinCalled : (parseMethodDescriptor yX0_joinCalled.desc).map (fun d => d.parameters.length) = some 1 := by decide +kernel
set_option maxRecDepth 100000 in
theorem ri_X1_init : Cond.instanceMethod yX1_init ∈ lw_tbl := List.mem_of_getElem? (i := 114) rfl
theorem rp_X1_init : (parseMethodDescriptor yX1_init.desc).map (fun d => d.parameters.length) = some 0 := by decide +kernel
set_option maxRecDepth 100000 in
theorem ri_X1_fill : Cond.instanceMethod yX1_fill ∈ lw_tbl := List.mem_of_getElem? (i := 559) rfl
set_option maxRecDepth 100000 in
theorem rl_X1_fill : Cond.selects RX1 yX1_fill yX1_fill ∈ lw_tbl := List.mem_of_getElem? (i := 560) rfl
theorem rp_X1_fill : (parseMethodDescriptor yX1_fill.desc).map (fun d => d.parameters.length) = some 5 := by decide +kernel
set_option maxRecDepth 100000 in
theorem ri_X1_holdsFor : Cond.instanceMethod yX1_holdsFor ∈ lw_tbl := List.mem_of_getElem? (i := 507) rfl
set_option maxRecDepth 100000 in
theorem rl_X1_holdsFor : Cond.selects RX1 yX1_holdsFor yX1_holdsFor ∈ lw_tbl := List.mem_of_getElem? (i := 508) rfl
theorem rp_X1_holdsFor : (parseMethodDescriptor yX1_holdsFor.desc).map (fun d => d.parameters.length) = some 3 := by decide +kernel
set_option maxRecDepth 100000 in
theorem ri_X1_numbersAreAlike : Cond.instanceMethod yX1_numbersAreAlike ∈ lw_tbl := List.mem_of_getElem? (i := 512) rfl
set_option maxRecDepth 100000 in
theorem rl_X1_numbersAreAlike : Cond.selects RX1 yX1_numbersAreAlike yX1_numbersAreAlike ∈ lw_tbl := List.mem_of_getElem? (i := 11) rfl
theorem rp_X1_numbersAreAlike : (parseMethodDescriptor yX1_numbersAreAlike.desc).map (fun d => d.parameters.length) = some 1 := by decide +kernel
set_option maxRecDepth 100000 in
theorem ri_X1_storesAreAlike : Cond.instanceMethod yX1_storesAreAlike ∈ lw_tbl := List.mem_of_getElem? (i := 518) rfl
set_option maxRecDepth 100000 in
theorem rl_X1_storesAreAlike : Cond.selects RX1 yX1_storesAreAlike yX1_storesAreAlike ∈ lw_tbl := List.mem_of_getElem? (i := 12) rfl
theorem rp_X1_storesAreAlike : (parseMethodDescriptor yX1_storesAreAlike.desc).map (fun d => d.parameters.length) = some 1 := by decide +kernel
set_option maxRecDepth 100000 in
theorem ri_X1_fact : Cond.instanceMethod yX1_fact ∈ lw_tbl := List.mem_of_getElem? (i := 605) rfl
set_option maxRecDepth 100000 in
theorem rl_X1_fact : Cond.selects RX1 yX1_fact yX1_fact ∈ lw_tbl := List.mem_of_getElem? (i := 606) rfl
theorem rp_X1_fact : (parseMethodDescriptor yX1_fact.desc).map (fun d => d.parameters.length) = some 2 := by decide +kernel
set_option maxRecDepth 100000 in
theorem ri_X1_numberWas : Cond.instanceMethod yX1_numberWas ∈ lw_tbl := List.mem_of_getElem? (i := 609) rfl
set_option maxRecDepth 100000 in
theorem rl_X1_numberWas : Cond.selects RX1 yX1_numberWas yX1_numberWas ∈ lw_tbl := List.mem_of_getElem? (i := 610) rfl
theorem rp_X1_numberWas : (parseMethodDescriptor yX1_numberWas.desc).map (fun d => d.parameters.length) = some 1 := by decide +kernel
set_option maxRecDepth 100000 in
theorem ri_X1_storeWas : Cond.instanceMethod yX1_storeWas ∈ lw_tbl := List.mem_of_getElem? (i := 613) rfl
set_option maxRecDepth 100000 in
theorem rl_X1_storeWas : Cond.selects RX1 yX1_storeWas yX1_storeWas ∈ lw_tbl := List.mem_of_getElem? (i := 614) rfl
theorem rp_X1_storeWas : (parseMethodDescriptor yX1_storeWas.desc).map (fun d => d.parameters.length) = some 1 := by decide +kernel
set_option maxRecDepth 100000 in
theorem ri_X2_init : Cond.instanceMethod yX2_init ∈ lw_tbl := List.mem_of_getElem? (i := 181) rfl
theorem rp_X2_init : (parseMethodDescriptor yX2_init.desc).map (fun d => d.parameters.length) = some 3 := by decide +kernel
set_option maxRecDepth 100000 in
theorem ri_X2_start : Cond.instanceMethod yX2_start ∈ lw_tbl := List.mem_of_getElem? (i := 424) rfl
set_option maxRecDepth 100000 in
theorem rl_X2_start : Cond.selects RX2 yX2_start yX2_start ∈ lw_tbl := List.mem_of_getElem? (i := 425) rfl
theorem rp_X2_start : (parseMethodDescriptor yX2_start.desc).map (fun d => d.parameters.length) = some 5 := by decide +kernel
set_option maxRecDepth 100000 in
theorem ri_X2_enter : Cond.instanceMethod yX2_enter ∈ lw_tbl := List.mem_of_getElem? (i := 433) rfl
set_option maxRecDepth 100000 in
theorem rl_X2_enter : Cond.selects RX2 yX2_enter yX2_enter ∈ lw_tbl := List.mem_of_getElem? (i := 2) rfl
theorem rp_X2_enter : (parseMethodDescriptor yX2_enter.desc).map (fun d => d.parameters.length) = some 3 := by decide +kernel
set_option maxRecDepth 100000 in
theorem ri_X2_fits : Cond.instanceMethod yX2_fits ∈ lw_tbl := List.mem_of_getElem? (i := 532) rfl
set_option maxRecDepth 100000 in
theorem rl_X2_fits : Cond.selects RX2 yX2_fits yX2_fits ∈ lw_tbl := List.mem_of_getElem? (i := 13) rfl
theorem rp_X2_fits : (parseMethodDescriptor yX2_fits.desc).map (fun d => d.parameters.length) = some 2 := by decide +kernel
set_option maxRecDepth 100000 in
theorem ri_X2_recall : Cond.instanceMethod yX2_recall ∈ lw_tbl := List.mem_of_getElem? (i := 536) rfl
set_option maxRecDepth 100000 in
theorem rl_X2_recall : Cond.selects RX2 yX2_recall yX2_recall ∈ lw_tbl := List.mem_of_getElem? (i := 14) rfl
theorem rp_X2_recall : (parseMethodDescriptor yX2_recall.desc).map (fun d => d.parameters.length) = some 2 := by decide +kernel
set_option maxRecDepth 100000 in
theorem ri_X2_walk : Cond.instanceMethod yX2_walk ∈ lw_tbl := List.mem_of_getElem? (i := 438) rfl
set_option maxRecDepth 100000 in
theorem rl_X2_walk : Cond.selects RX2 yX2_walk yX2_walk ∈ lw_tbl := List.mem_of_getElem? (i := 3) rfl
theorem rp_X2_walk : (parseMethodDescriptor yX2_walk.desc).map (fun d => d.parameters.length) = some 3 := by decide +kernel
set_option maxRecDepth 100000 in
theorem ri_X2_perform : Cond.instanceMethod yX2_perform ∈ lw_tbl := List.mem_of_getElem? (i := 444) rfl
set_option maxRecDepth 100000 in
theorem rl_X2_perform : Cond.selects RX2 yX2_perform yX2_perform ∈ lw_tbl := List.mem_of_getElem? (i := 4) rfl
theorem rp_X2_perform : (parseMethodDescriptor yX2_perform.desc).map (fun d => d.parameters.length) = some 3 := by decide +kernel
set_option maxRecDepth 100000 in
theorem ri_X2_readNumber : Cond.instanceMethod yX2_readNumber ∈ lw_tbl := List.mem_of_getElem? (i := 452) rfl
set_option maxRecDepth 100000 in
theorem rl_X2_readNumber : Cond.selects RX2 yX2_readNumber yX2_readNumber ∈ lw_tbl := List.mem_of_getElem? (i := 5) rfl
theorem rp_X2_readNumber : (parseMethodDescriptor yX2_readNumber.desc).map (fun d => d.parameters.length) = some 2 := by decide +kernel
set_option maxRecDepth 100000 in
theorem ri_X2_readStore : Cond.instanceMethod yX2_readStore ∈ lw_tbl := List.mem_of_getElem? (i := 464) rfl
set_option maxRecDepth 100000 in
theorem rl_X2_readStore : Cond.selects RX2 yX2_readStore yX2_readStore ∈ lw_tbl := List.mem_of_getElem? (i := 6) rfl
theorem rp_X2_readStore : (parseMethodDescriptor yX2_readStore.desc).map (fun d => d.parameters.length) = some 2 := by decide +kernel
set_option maxRecDepth 100000 in
theorem ri_X2_writeStore : Cond.instanceMethod yX2_writeStore ∈ lw_tbl := List.mem_of_getElem? (i := 469) rfl
set_option maxRecDepth 100000 in
theorem rl_X2_writeStore : Cond.selects RX2 yX2_writeStore yX2_writeStore ∈ lw_tbl := List.mem_of_getElem? (i := 7) rfl
theorem rp_X2_writeStore : (parseMethodDescriptor yX2_writeStore.desc).map (fun d => d.parameters.length) = some 2 := by decide +kernel
set_option maxRecDepth 100000 in
theorem ri_X2_callRoutine : Cond.instanceMethod yX2_callRoutine ∈ lw_tbl := List.mem_of_getElem? (i := 478) rfl
set_option maxRecDepth 100000 in
theorem rl_X2_callRoutine : Cond.selects RX2 yX2_callRoutine yX2_callRoutine ∈ lw_tbl := List.mem_of_getElem? (i := 8) rfl
theorem rp_X2_callRoutine : (parseMethodDescriptor yX2_callRoutine.desc).map (fun d => d.parameters.length) = some 3 := by decide +kernel
set_option maxRecDepth 100000 in
theorem ri_X2_combine : Cond.instanceMethod yX2_combine ∈ lw_tbl := List.mem_of_getElem? (i := 487) rfl
set_option maxRecDepth 100000 in
theorem rl_X2_combine : Cond.selects RX2 yX2_combine yX2_combine ∈ lw_tbl := List.mem_of_getElem? (i := 9) rfl
theorem rp_X2_combine : (parseMethodDescriptor yX2_combine.desc).map (fun d => d.parameters.length) = some 2 := by decide +kernel
set_option maxRecDepth 100000 in
theorem ri_X2_changeEnd : Cond.instanceMethod yX2_changeEnd ∈ lw_tbl := List.mem_of_getElem? (i := 491) rfl
set_option maxRecDepth 100000 in
theorem rl_X2_changeEnd : Cond.selects RX2 yX2_changeEnd yX2_changeEnd ∈ lw_tbl := List.mem_of_getElem? (i := 10) rfl
theorem rp_X2_changeEnd : (parseMethodDescriptor yX2_changeEnd.desc).map (fun d => d.parameters.length) = some 2 := by decide +kernel
set_option maxRecDepth 100000 in
theorem ri_X3_init : Cond.instanceMethod yX3_init ∈ lw_tbl := List.mem_of_getElem? (i := 64) rfl
theorem rp_X3_init : (parseMethodDescriptor yX3_init.desc).map (fun d => d.parameters.length) = some 0 := by decide +kernel
set_option maxRecDepth 100000 in
theorem ri_X3_isFull : Cond.instanceMethod yX3_isFull ∈ lw_tbl := List.mem_of_getElem? (i := 317) rfl
set_option maxRecDepth 100000 in
theorem rl_X3_isFull : Cond.selects RX3 yX3_isFull yX3_isFull ∈ lw_tbl := List.mem_of_getElem? (i := 318) rfl
theorem rp_X3_isFull : (parseMethodDescriptor yX3_isFull.desc).map (fun d => d.parameters.length) = some 0 := by decide +kernel
set_option maxRecDepth 100000 in
theorem ri_X3_hasRoutine : Cond.instanceMethod yX3_hasRoutine ∈ lw_tbl := List.mem_of_getElem? (i := 334) rfl
set_option maxRecDepth 100000 in
theorem rl_X3_hasRoutine : Cond.selects RX3 yX3_hasRoutine yX3_hasRoutine ∈ lw_tbl := List.mem_of_getElem? (i := 335) rfl
theorem rp_X3_hasRoutine : (parseMethodDescriptor yX3_hasRoutine.desc).map (fun d => d.parameters.length) = some 1 := by decide +kernel
set_option maxRecDepth 100000 in
theorem ri_X3_lengthOf : Cond.instanceMethod yX3_lengthOf ∈ lw_tbl := List.mem_of_getElem? (i := 341) rfl
set_option maxRecDepth 100000 in
theorem rl_X3_lengthOf : Cond.selects RX3 yX3_lengthOf yX3_lengthOf ∈ lw_tbl := List.mem_of_getElem? (i := 342) rfl
theorem rp_X3_lengthOf : (parseMethodDescriptor yX3_lengthOf.desc).map (fun d => d.parameters.length) = some 1 := by decide +kernel
set_option maxRecDepth 100000 in
theorem ri_X3_codeOf : Cond.instanceMethod yX3_codeOf ∈ lw_tbl := List.mem_of_getElem? (i := 380) rfl
set_option maxRecDepth 100000 in
theorem rl_X3_codeOf : Cond.selects RX3 yX3_codeOf yX3_codeOf ∈ lw_tbl := List.mem_of_getElem? (i := 381) rfl
theorem rp_X3_codeOf : (parseMethodDescriptor yX3_codeOf.desc).map (fun d => d.parameters.length) = some 2 := by decide +kernel
set_option maxRecDepth 100000 in
theorem ri_X3_actingOf : Cond.instanceMethod yX3_actingOf ∈ lw_tbl := List.mem_of_getElem? (i := 408) rfl
set_option maxRecDepth 100000 in
theorem rl_X3_actingOf : Cond.selects RX3 yX3_actingOf yX3_actingOf ∈ lw_tbl := List.mem_of_getElem? (i := 409) rfl
theorem rp_X3_actingOf : (parseMethodDescriptor yX3_actingOf.desc).map (fun d => d.parameters.length) = some 1 := by decide +kernel
set_option maxRecDepth 100000 in
theorem ri_X3_readingOf : Cond.instanceMethod yX3_readingOf ∈ lw_tbl := List.mem_of_getElem? (i := 416) rfl
set_option maxRecDepth 100000 in
theorem rl_X3_readingOf : Cond.selects RX3 yX3_readingOf yX3_readingOf ∈ lw_tbl := List.mem_of_getElem? (i := 417) rfl
theorem rp_X3_readingOf : (parseMethodDescriptor yX3_readingOf.desc).map (fun d => d.parameters.length) = some 1 := by decide +kernel
set_option maxRecDepth 100000 in
theorem ri_X3_addRoutine : Cond.instanceMethod yX3_addRoutine ∈ lw_tbl := List.mem_of_getElem? (i := 325) rfl
set_option maxRecDepth 100000 in
theorem rl_X3_addRoutine : Cond.selects RX3 yX3_addRoutine yX3_addRoutine ∈ lw_tbl := List.mem_of_getElem? (i := 326) rfl
theorem rp_X3_addRoutine : (parseMethodDescriptor yX3_addRoutine.desc).map (fun d => d.parameters.length) = some 0 := by decide +kernel
set_option maxRecDepth 100000 in
theorem ri_X3_addCode : Cond.instanceMethod yX3_addCode ∈ lw_tbl := List.mem_of_getElem? (i := 346) rfl
set_option maxRecDepth 100000 in
theorem rl_X3_addCode : Cond.selects RX3 yX3_addCode yX3_addCode ∈ lw_tbl := List.mem_of_getElem? (i := 347) rfl
theorem rp_X3_addCode : (parseMethodDescriptor yX3_addCode.desc).map (fun d => d.parameters.length) = some 2 := by decide +kernel
set_option maxRecDepth 100000 in
theorem ri_X3_spreadToCallers : Cond.instanceMethod yX3_spreadToCallers ∈ lw_tbl := List.mem_of_getElem? (i := 352) rfl
set_option maxRecDepth 100000 in
theorem rl_X3_spreadToCallers : Cond.selects RX3 yX3_spreadToCallers yX3_spreadToCallers ∈ lw_tbl := List.mem_of_getElem? (i := 0) rfl
theorem rp_X3_spreadToCallers : (parseMethodDescriptor yX3_spreadToCallers.desc).map (fun d => d.parameters.length) = some 0 := by decide +kernel
set_option maxRecDepth 100000 in
theorem ri_X3_gatherFromCalled : Cond.instanceMethod yX3_gatherFromCalled ∈ lw_tbl := List.mem_of_getElem? (i := 356) rfl
set_option maxRecDepth 100000 in
theorem rl_X3_gatherFromCalled : Cond.selects RX3 yX3_gatherFromCalled yX3_gatherFromCalled ∈ lw_tbl := List.mem_of_getElem? (i := 1) rfl
theorem rp_X3_gatherFromCalled : (parseMethodDescriptor yX3_gatherFromCalled.desc).map (fun d => d.parameters.length) = some 1 := by decide +kernel
set_option maxRecDepth 100000 in
theorem ri_X3_keepable : Cond.instanceMethod yX3_keepable ∈ lw_tbl := List.mem_of_getElem? (i := 362) rfl
set_option maxRecDepth 100000 in
theorem rl_X3_keepable : Cond.selects RX3 yX3_keepable yX3_keepable ∈ lw_tbl := List.mem_of_getElem? (i := 363) rfl
theorem rp_X3_keepable : (parseMethodDescriptor yX3_keepable.desc).map (fun d => d.parameters.length) = some 0 := by decide +kernel
set_option maxRecDepth 100000 in
theorem ri_X3_firstKeepable : Cond.instanceMethod yX3_firstKeepable ∈ lw_tbl := List.mem_of_getElem? (i := 366) rfl
set_option maxRecDepth 100000 in
theorem rl_X3_firstKeepable : Cond.selects RX3 yX3_firstKeepable yX3_firstKeepable ∈ lw_tbl := List.mem_of_getElem? (i := 367) rfl
theorem rp_X3_firstKeepable : (parseMethodDescriptor yX3_firstKeepable.desc).map (fun d => d.parameters.length) = some 1 := by decide +kernel
set_option maxRecDepth 100000 in
theorem ri_X4_init : Cond.instanceMethod yX4_init ∈ lw_tbl := List.mem_of_getElem? (i := 269) rfl
theorem rp_X4_init : (parseMethodDescriptor yX4_init.desc).map (fun d => d.parameters.length) = some 0 := by decide +kernel
set_option maxRecDepth 100000 in
theorem ri_X4_add : Cond.instanceMethod yX4_add ∈ lw_tbl := List.mem_of_getElem? (i := 621) rfl
set_option maxRecDepth 100000 in
theorem rl_X4_add : Cond.selects RX4 yX4_add yX4_add ∈ lw_tbl := List.mem_of_getElem? (i := 622) rfl
theorem rp_X4_add : (parseMethodDescriptor yX4_add.desc).map (fun d => d.parameters.length) = some 4 := by decide +kernel
set_option maxRecDepth 100000 in
theorem ri_X4_fact : Cond.instanceMethod yX4_fact ∈ lw_tbl := List.mem_of_getElem? (i := 642) rfl
set_option maxRecDepth 100000 in
theorem rl_X4_fact : Cond.selects RX4 yX4_fact yX4_fact ∈ lw_tbl := List.mem_of_getElem? (i := 643) rfl
theorem rp_X4_fact : (parseMethodDescriptor yX4_fact.desc).map (fun d => d.parameters.length) = some 2 := by decide +kernel
set_option maxRecDepth 100000 in
theorem ri_X5_init : Cond.instanceMethod yX5_init ∈ lw_tbl := List.mem_of_getElem? (i := 107) rfl
theorem rp_X5_init : (parseMethodDescriptor yX5_init.desc).map (fun d => d.parameters.length) = some 0 := by decide +kernel
set_option maxRecDepth 100000 in
theorem ri_X5_has : Cond.instanceMethod yX5_has ∈ lw_tbl := List.mem_of_getElem? (i := 522) rfl
set_option maxRecDepth 100000 in
theorem rl_X5_has : Cond.selects RX5 yX5_has yX5_has ∈ lw_tbl := List.mem_of_getElem? (i := 523) rfl
theorem rp_X5_has : (parseMethodDescriptor yX5_has.desc).map (fun d => d.parameters.length) = some 1 := by decide +kernel
set_option maxRecDepth 100000 in
theorem ri_X5_at : Cond.instanceMethod yX5_at ∈ lw_tbl := List.mem_of_getElem? (i := 526) rfl
set_option maxRecDepth 100000 in
theorem rl_X5_at : Cond.selects RX5 yX5_at yX5_at ∈ lw_tbl := List.mem_of_getElem? (i := 527) rfl
theorem rp_X5_at : (parseMethodDescriptor yX5_at.desc).map (fun d => d.parameters.length) = some 1 := by decide +kernel
set_option maxRecDepth 100000 in
theorem ri_X5_firstThatHolds : Cond.instanceMethod yX5_firstThatHolds ∈ lw_tbl := List.mem_of_getElem? (i := 503) rfl
set_option maxRecDepth 100000 in
theorem rl_X5_firstThatHolds : Cond.selects RX5 yX5_firstThatHolds yX5_firstThatHolds ∈ lw_tbl := List.mem_of_getElem? (i := 504) rfl
theorem rp_X5_firstThatHolds : (parseMethodDescriptor yX5_firstThatHolds.desc).map (fun d => d.parameters.length) = some 3 := by decide +kernel
set_option maxRecDepth 100000 in
theorem ri_X5_touch : Cond.instanceMethod yX5_touch ∈ lw_tbl := List.mem_of_getElem? (i := 539) rfl
set_option maxRecDepth 100000 in
theorem rl_X5_touch : Cond.selects RX5 yX5_touch yX5_touch ∈ lw_tbl := List.mem_of_getElem? (i := 540) rfl
theorem rp_X5_touch : (parseMethodDescriptor yX5_touch.desc).map (fun d => d.parameters.length) = some 1 := by decide +kernel
set_option maxRecDepth 100000 in
theorem ri_X5_add : Cond.instanceMethod yX5_add ∈ lw_tbl := List.mem_of_getElem? (i := 543) rfl
set_option maxRecDepth 100000 in
theorem rl_X5_add : Cond.selects RX5 yX5_add yX5_add ∈ lw_tbl := List.mem_of_getElem? (i := 544) rfl
theorem rp_X5_add : (parseMethodDescriptor yX5_add.desc).map (fun d => d.parameters.length) = some 5 := by decide +kernel
set_option maxRecDepth 100000 in
theorem ri_X5_nextToGo : Cond.instanceMethod yX5_nextToGo ∈ lw_tbl := List.mem_of_getElem? (i := 548) rfl
set_option maxRecDepth 100000 in
theorem rl_X5_nextToGo : Cond.selects RX5 yX5_nextToGo yX5_nextToGo ∈ lw_tbl := List.mem_of_getElem? (i := 15) rfl
theorem rp_X5_nextToGo : (parseMethodDescriptor yX5_nextToGo.desc).map (fun d => d.parameters.length) = some 0 := by decide +kernel
set_option maxRecDepth 100000 in
theorem ri_X5_goesAheadOf : Cond.instanceMethod yX5_goesAheadOf ∈ lw_tbl := List.mem_of_getElem? (i := 552) rfl
set_option maxRecDepth 100000 in
theorem rl_X5_goesAheadOf : Cond.selects RX5 yX5_goesAheadOf yX5_goesAheadOf ∈ lw_tbl := List.mem_of_getElem? (i := 16) rfl
theorem rp_X5_goesAheadOf : (parseMethodDescriptor yX5_goesAheadOf.desc).map (fun d => d.parameters.length) = some 2 := by decide +kernel
set_option maxRecDepth 100000 in
theorem ri_X5_drop : Cond.instanceMethod yX5_drop ∈ lw_tbl := List.mem_of_getElem? (i := 556) rfl
set_option maxRecDepth 100000 in
theorem rl_X5_drop : Cond.selects RX5 yX5_drop yX5_drop ∈ lw_tbl := List.mem_of_getElem? (i := 17) rfl
theorem rp_X5_drop : (parseMethodDescriptor yX5_drop.desc).map (fun d => d.parameters.length) = some 1 := by decide +kernel
set_option maxRecDepth 100000 in
theorem ri_X5_dropAll : Cond.instanceMethod yX5_dropAll ∈ lw_tbl := List.mem_of_getElem? (i := 321) rfl
set_option maxRecDepth 100000 in
theorem rl_X5_dropAll : Cond.selects RX5 yX5_dropAll yX5_dropAll ∈ lw_tbl := List.mem_of_getElem? (i := 322) rfl
theorem rp_X5_dropAll : (parseMethodDescriptor yX5_dropAll.desc).map (fun d => d.parameters.length) = some 0 := by decide +kernel
set_option maxRecDepth 100000 in
theorem ri_X5_dropOf : Cond.instanceMethod yX5_dropOf ∈ lw_tbl := List.mem_of_getElem? (i := 577) rfl
set_option maxRecDepth 100000 in
theorem rl_X5_dropOf : Cond.selects RX5 yX5_dropOf yX5_dropOf ∈ lw_tbl := List.mem_of_getElem? (i := 578) rfl
theorem rp_X5_dropOf : (parseMethodDescriptor yX5_dropOf.desc).map (fun d => d.parameters.length) = some 1 := by decide +kernel
set_option maxRecDepth 100000 in
theorem ri_X5_furnish : Cond.instanceMethod yX5_furnish ∈ lw_tbl := List.mem_of_getElem? (i := 588) rfl
set_option maxRecDepth 100000 in
theorem rl_X5_furnish : Cond.selects RX5 yX5_furnish yX5_furnish ∈ lw_tbl := List.mem_of_getElem? (i := 589) rfl
theorem rp_X5_furnish : (parseMethodDescriptor yX5_furnish.desc).map (fun d => d.parameters.length) = some 2 := by decide +kernel
set_option maxRecDepth 100000 in
theorem ri_X6_init : Cond.instanceMethod yX6_init ∈ lw_tbl := List.mem_of_getElem? (i := 93) rfl
theorem rp_X6_init : (parseMethodDescriptor yX6_init.desc).map (fun d => d.parameters.length) = some 0 := by decide +kernel
set_option maxRecDepth 100000 in
theorem ri_X6_valueOf : Cond.instanceMethod yX6_valueOf ∈ lw_tbl := List.mem_of_getElem? (i := 388) rfl
set_option maxRecDepth 100000 in
theorem rl_X6_valueOf : Cond.selects RX6 yX6_valueOf yX6_valueOf ∈ lw_tbl := List.mem_of_getElem? (i := 389) rfl
theorem rp_X6_valueOf : (parseMethodDescriptor yX6_valueOf.desc).map (fun d => d.parameters.length) = some 1 := by decide +kernel
set_option maxRecDepth 100000 in
theorem ri_X6_setValue : Cond.instanceMethod yX6_setValue ∈ lw_tbl := List.mem_of_getElem? (i := 392) rfl
set_option maxRecDepth 100000 in
theorem rl_X6_setValue : Cond.selects RX6 yX6_setValue yX6_setValue ∈ lw_tbl := List.mem_of_getElem? (i := 393) rfl
theorem rp_X6_setValue : (parseMethodDescriptor yX6_setValue.desc).map (fun d => d.parameters.length) = some 2 := by decide +kernel
set_option maxRecDepth 100000 in
theorem ri_X6_nextLot : Cond.instanceMethod yX6_nextLot ∈ lw_tbl := List.mem_of_getElem? (i := 494) rfl
set_option maxRecDepth 100000 in
theorem rl_X6_nextLot : Cond.selects RX6 yX6_nextLot yX6_nextLot ∈ lw_tbl := List.mem_of_getElem? (i := 495) rfl
theorem rp_X6_nextLot : (parseMethodDescriptor yX6_nextLot.desc).map (fun d => d.parameters.length) = some 0 := by decide +kernel
set_option maxRecDepth 100000 in
theorem ri_X6_copyFrom : Cond.instanceMethod yX6_copyFrom ∈ lw_tbl := List.mem_of_getElem? (i := 638) rfl
set_option maxRecDepth 100000 in
theorem rl_X6_copyFrom : Cond.selects RX6 yX6_copyFrom yX6_copyFrom ∈ lw_tbl := List.mem_of_getElem? (i := 639) rfl
theorem rp_X6_copyFrom : (parseMethodDescriptor yX6_copyFrom.desc).map (fun d => d.parameters.length) = some 1 := by decide +kernel
set_option maxRecDepth 100000 in
theorem ri_X7_init : Cond.instanceMethod yX7_init ∈ lw_tbl := List.mem_of_getElem? (i := 56) rfl
theorem rp_X7_init : (parseMethodDescriptor yX7_init.desc).map (fun d => d.parameters.length) = some 0 := by decide +kernel
set_option maxRecDepth 100000 in
theorem ri_X7_routine : Cond.instanceMethod yX7_routine ∈ lw_tbl := List.mem_of_getElem? (i := 313) rfl
set_option maxRecDepth 100000 in
theorem rl_X7_routine : Cond.selects RX7 yX7_routine yX7_routine ∈ lw_tbl := List.mem_of_getElem? (i := 314) rfl
theorem rp_X7_routine : (parseMethodDescriptor yX7_routine.desc).map (fun d => d.parameters.length) = some 0 := by decide +kernel
set_option maxRecDepth 100000 in
theorem ri_X7_code : Cond.instanceMethod yX7_code ∈ lw_tbl := List.mem_of_getElem? (i := 330) rfl
set_option maxRecDepth 100000 in
theorem rl_X7_code : Cond.selects RX7 yX7_code yX7_code ∈ lw_tbl := List.mem_of_getElem? (i := 331) rfl
theorem rp_X7_code : (parseMethodDescriptor yX7_code.desc).map (fun d => d.parameters.length) = some 2 := by decide +kernel
set_option maxRecDepth 100000 in
theorem ri_X7_codeAt : Cond.instanceMethod yX7_codeAt ∈ lw_tbl := List.mem_of_getElem? (i := 376) rfl
set_option maxRecDepth 100000 in
theorem rl_X7_codeAt : Cond.selects RX7 yX7_codeAt yX7_codeAt ∈ lw_tbl := List.mem_of_getElem? (i := 377) rfl
theorem rp_X7_codeAt : (parseMethodDescriptor yX7_codeAt.desc).map (fun d => d.parameters.length) = some 2 := by decide +kernel
set_option maxRecDepth 100000 in
theorem ri_X7_store : Cond.instanceMethod yX7_store ∈ lw_tbl := List.mem_of_getElem? (i := 384) rfl
set_option maxRecDepth 100000 in
theorem rl_X7_store : Cond.selects RX7 yX7_store yX7_store ∈ lw_tbl := List.mem_of_getElem? (i := 385) rfl
theorem rp_X7_store : (parseMethodDescriptor yX7_store.desc).map (fun d => d.parameters.length) = some 2 := by decide +kernel
set_option maxRecDepth 100000 in
theorem ri_X7_held : Cond.instanceMethod yX7_held ∈ lw_tbl := List.mem_of_getElem? (i := 396) rfl
set_option maxRecDepth 100000 in
theorem rl_X7_held : Cond.selects RX7 yX7_held yX7_held ∈ lw_tbl := List.mem_of_getElem? (i := 397) rfl
theorem rp_X7_held : (parseMethodDescriptor yX7_held.desc).map (fun d => d.parameters.length) = some 1 := by decide +kernel
set_option maxRecDepth 100000 in
theorem ri_X7_lot : Cond.instanceMethod yX7_lot ∈ lw_tbl := List.mem_of_getElem? (i := 400) rfl
set_option maxRecDepth 100000 in
theorem rl_X7_lot : Cond.selects RX7 yX7_lot yX7_lot ∈ lw_tbl := List.mem_of_getElem? (i := 401) rfl
theorem rp_X7_lot : (parseMethodDescriptor yX7_lot.desc).map (fun d => d.parameters.length) = some 1 := by decide +kernel
set_option maxRecDepth 100000 in
theorem ri_X7_acting : Cond.instanceMethod yX7_acting ∈ lw_tbl := List.mem_of_getElem? (i := 404) rfl
set_option maxRecDepth 100000 in
theorem rl_X7_acting : Cond.selects RX7 yX7_acting yX7_acting ∈ lw_tbl := List.mem_of_getElem? (i := 405) rfl
theorem rp_X7_acting : (parseMethodDescriptor yX7_acting.desc).map (fun d => d.parameters.length) = some 1 := by decide +kernel
set_option maxRecDepth 100000 in
theorem ri_X7_reads : Cond.instanceMethod yX7_reads ∈ lw_tbl := List.mem_of_getElem? (i := 412) rfl
set_option maxRecDepth 100000 in
theorem rl_X7_reads : Cond.selects RX7 yX7_reads yX7_reads ∈ lw_tbl := List.mem_of_getElem? (i := 413) rfl
theorem rp_X7_reads : (parseMethodDescriptor yX7_reads.desc).map (fun d => d.parameters.length) = some 1 := by decide +kernel
set_option maxRecDepth 100000 in
theorem ri_X7_run : Cond.instanceMethod yX7_run ∈ lw_tbl := List.mem_of_getElem? (i := 420) rfl
set_option maxRecDepth 100000 in
theorem rl_X7_run : Cond.selects RX7 yX7_run yX7_run ∈ lw_tbl := List.mem_of_getElem? (i := 421) rfl
theorem rp_X7_run : (parseMethodDescriptor yX7_run.desc).map (fun d => d.parameters.length) = some 4 := by decide +kernel
set_option maxRecDepth 100000 in
theorem ri_X7_answer : Cond.instanceMethod yX7_answer ∈ lw_tbl := List.mem_of_getElem? (i := 564) rfl
set_option maxRecDepth 100000 in
theorem rl_X7_answer : Cond.selects RX7 yX7_answer yX7_answer ∈ lw_tbl := List.mem_of_getElem? (i := 565) rfl
theorem rp_X7_answer : (parseMethodDescriptor yX7_answer.desc).map (fun d => d.parameters.length) = some 0 := by decide +kernel
set_option maxRecDepth 100000 in
theorem ri_X7_ran : Cond.instanceMethod yX7_ran ∈ lw_tbl := List.mem_of_getElem? (i := 568) rfl
set_option maxRecDepth 100000 in
theorem rl_X7_ran : Cond.selects RX7 yX7_ran yX7_ran ∈ lw_tbl := List.mem_of_getElem? (i := 569) rfl
theorem rp_X7_ran : (parseMethodDescriptor yX7_ran.desc).map (fun d => d.parameters.length) = some 1 := by decide +kernel
set_option maxRecDepth 100000 in
theorem ri_X7_keep : Cond.instanceMethod yX7_keep ∈ lw_tbl := List.mem_of_getElem? (i := 572) rfl
set_option maxRecDepth 100000 in
theorem rl_X7_keep : Cond.selects RX7 yX7_keep yX7_keep ∈ lw_tbl := List.mem_of_getElem? (i := 573) rfl
theorem rp_X7_keep : (parseMethodDescriptor yX7_keep.desc).map (fun d => d.parameters.length) = some 2 := by decide +kernel
set_option maxRecDepth 100000 in
theorem ri_X7_room : Cond.instanceMethod yX7_room ∈ lw_tbl := List.mem_of_getElem? (i := 581) rfl
set_option maxRecDepth 100000 in
theorem rl_X7_room : Cond.selects RX7 yX7_room yX7_room ∈ lw_tbl := List.mem_of_getElem? (i := 582) rfl
theorem rp_X7_room : (parseMethodDescriptor yX7_room.desc).map (fun d => d.parameters.length) = some 2 := by decide +kernel
set_option maxRecDepth 100000 in
theorem ri_X7_forget : Cond.instanceMethod yX7_forget ∈ lw_tbl := List.mem_of_getElem? (i := 595) rfl
set_option maxRecDepth 100000 in
theorem rl_X7_forget : Cond.selects RX7 yX7_forget yX7_forget ∈ lw_tbl := List.mem_of_getElem? (i := 596) rfl
theorem rp_X7_forget : (parseMethodDescriptor yX7_forget.desc).map (fun d => d.parameters.length) = some 0 := by decide +kernel
set_option maxRecDepth 100000 in
theorem ri_X7_kept : Cond.instanceMethod yX7_kept ∈ lw_tbl := List.mem_of_getElem? (i := 599) rfl
set_option maxRecDepth 100000 in
theorem rl_X7_kept : Cond.selects RX7 yX7_kept yX7_kept ∈ lw_tbl := List.mem_of_getElem? (i := 600) rfl
theorem rp_X7_kept : (parseMethodDescriptor yX7_kept.desc).map (fun d => d.parameters.length) = some 2 := by decide +kernel
set_option maxRecDepth 100000 in
theorem ri_X7_log : Cond.instanceMethod yX7_log ∈ lw_tbl := List.mem_of_getElem? (i := 617) rfl
set_option maxRecDepth 100000 in
theorem rl_X7_log : Cond.selects RX7 yX7_log yX7_log ∈ lw_tbl := List.mem_of_getElem? (i := 618) rfl
theorem rp_X7_log : (parseMethodDescriptor yX7_log.desc).map (fun d => d.parameters.length) = some 4 := by decide +kernel
set_option maxRecDepth 100000 in
theorem ri_X7_clear : Cond.instanceMethod yX7_clear ∈ lw_tbl := List.mem_of_getElem? (i := 625) rfl
set_option maxRecDepth 100000 in
theorem rl_X7_clear : Cond.selects RX7 yX7_clear yX7_clear ∈ lw_tbl := List.mem_of_getElem? (i := 626) rfl
theorem rp_X7_clear : (parseMethodDescriptor yX7_clear.desc).map (fun d => d.parameters.length) = some 0 := by decide +kernel
set_option maxRecDepth 100000 in
theorem ri_X7_cost : Cond.instanceMethod yX7_cost ∈ lw_tbl := List.mem_of_getElem? (i := 629) rfl
set_option maxRecDepth 100000 in
theorem rl_X7_cost : Cond.selects RX7 yX7_cost yX7_cost ∈ lw_tbl := List.mem_of_getElem? (i := 630) rfl
theorem rp_X7_cost : (parseMethodDescriptor yX7_cost.desc).map (fun d => d.parameters.length) = some 2 := by decide +kernel
set_option maxRecDepth 100000 in
theorem ri_X7_best : Cond.instanceMethod yX7_best ∈ lw_tbl := List.mem_of_getElem? (i := 646) rfl
set_option maxRecDepth 100000 in
theorem rl_X7_best : Cond.selects RX7 yX7_best yX7_best ∈ lw_tbl := List.mem_of_getElem? (i := 647) rfl
theorem rp_X7_best : (parseMethodDescriptor yX7_best.desc).map (fun d => d.parameters.length) = some 1 := by decide +kernel
set_option maxRecDepth 100000 in
theorem ri_X7_told : Cond.instanceMethod yX7_told ∈ lw_tbl := List.mem_of_getElem? (i := 655) rfl
set_option maxRecDepth 100000 in
theorem rl_X7_told : Cond.selects RX7 yX7_told yX7_told ∈ lw_tbl := List.mem_of_getElem? (i := 656) rfl
theorem rp_X7_told : (parseMethodDescriptor yX7_told.desc).map (fun d => d.parameters.length) = some 1 := by decide +kernel
set_option maxRecDepth 100000 in
theorem ri_X7_tryOut : Cond.instanceMethod yX7_tryOut ∈ lw_tbl := List.mem_of_getElem? (i := 635) rfl
set_option maxRecDepth 100000 in
theorem rl_X7_tryOut : Cond.selects RX7 yX7_tryOut yX7_tryOut ∈ lw_tbl := List.mem_of_getElem? (i := 18) rfl
theorem rp_X7_tryOut : (parseMethodDescriptor yX7_tryOut.desc).map (fun d => d.parameters.length) = some 3 := by decide +kernel
set_option maxRecDepth 100000 in
theorem rs_X7_pick : Cond.static yX7_pick ∈ lw_tbl := List.mem_of_getElem? (i := 652) rfl
theorem rp_X7_pick : (parseMethodDescriptor yX7_pick.desc).map (fun d => d.parameters.length) = some 2 := by decide +kernel
set_option maxRecDepth 100000 in
theorem rs_X7_isCode : Cond.static yX7_isCode ∈ lw_tbl := List.mem_of_getElem? (i := 338) rfl
theorem rp_X7_isCode : (parseMethodDescriptor yX7_isCode.desc).map (fun d => d.parameters.length) = some 1 := by decide +kernel
set_option maxRecDepth 100000 in
theorem rs_X7_isRoom : Cond.static yX7_isRoom ∈ lw_tbl := List.mem_of_getElem? (i := 585) rfl
theorem rp_X7_isRoom : (parseMethodDescriptor yX7_isRoom.desc).map (fun d => d.parameters.length) = some 1 := by decide +kernel
set_option maxRecDepth 100000 in
theorem rs_X7_isSet : Cond.static yX7_isSet ∈ lw_tbl := List.mem_of_getElem? (i := 359) rfl
theorem rp_X7_isSet : (parseMethodDescriptor yX7_isSet.desc).map (fun d => d.parameters.length) = some 2 := by decide +kernel
set_option maxRecDepth 100000 in
theorem ri_X8_init : Cond.instanceMethod yX8_init ∈ lw_tbl := List.mem_of_getElem? (i := 661) rfl
theorem rp_X8_init : (parseMethodDescriptor yX8_init.desc).map (fun d => d.parameters.length) = some 0 := by decide +kernel
set_option maxRecDepth 100000 in
theorem rs_X8_in : Cond.static yX8_in ∈ lw_tbl := List.mem_of_getElem? (i := 820) rfl
theorem rp_X8_in : (parseMethodDescriptor yX8_in.desc).map (fun d => d.parameters.length) = some 3 := by decide +kernel
set_option maxRecDepth 100000 in
theorem ri_X8_isRoutine : Cond.instanceMethod yX8_isRoutine ∈ lw_tbl := List.mem_of_getElem? (i := 817) rfl
set_option maxRecDepth 100000 in
theorem rl_X8_isRoutine : Cond.selects RX8 yX8_isRoutine yX8_isRoutine ∈ lw_tbl := List.mem_of_getElem? (i := 19) rfl
theorem rp_X8_isRoutine : (parseMethodDescriptor yX8_isRoutine.desc).map (fun d => d.parameters.length) = some 1 := by decide +kernel
set_option maxRecDepth 100000 in
theorem ri_X8_routine : Cond.instanceMethod yX8_routine ∈ lw_tbl := List.mem_of_getElem? (i := 808) rfl
set_option maxRecDepth 100000 in
theorem rl_X8_routine : Cond.selects RX8 yX8_routine yX8_routine ∈ lw_tbl := List.mem_of_getElem? (i := 809) rfl
theorem rp_X8_routine : (parseMethodDescriptor yX8_routine.desc).map (fun d => d.parameters.length) = some 0 := by decide +kernel
set_option maxRecDepth 100000 in
theorem rs_X8_isCode : Cond.static yX8_isCode ∈ lw_tbl := List.mem_of_getElem? (i := 823) rfl
theorem rp_X8_isCode : (parseMethodDescriptor yX8_isCode.desc).map (fun d => d.parameters.length) = some 1 := by decide +kernel
set_option maxRecDepth 100000 in
theorem ri_X8_code : Cond.instanceMethod yX8_code ∈ lw_tbl := List.mem_of_getElem? (i := 812) rfl
set_option maxRecDepth 100000 in
theorem rl_X8_code : Cond.selects RX8 yX8_code yX8_code ∈ lw_tbl := List.mem_of_getElem? (i := 813) rfl
theorem rp_X8_code : (parseMethodDescriptor yX8_code.desc).map (fun d => d.parameters.length) = some 2 := by decide +kernel
set_option maxRecDepth 100000 in
theorem ri_X8_codeAt : Cond.instanceMethod yX8_codeAt ∈ lw_tbl := List.mem_of_getElem? (i := 834) rfl
set_option maxRecDepth 100000 in
theorem rl_X8_codeAt : Cond.selects RX8 yX8_codeAt yX8_codeAt ∈ lw_tbl := List.mem_of_getElem? (i := 835) rfl
theorem rp_X8_codeAt : (parseMethodDescriptor yX8_codeAt.desc).map (fun d => d.parameters.length) = some 2 := by decide +kernel
set_option maxRecDepth 100000 in
theorem ri_X8_store : Cond.instanceMethod yX8_store ∈ lw_tbl := List.mem_of_getElem? (i := 838) rfl
set_option maxRecDepth 100000 in
theorem rl_X8_store : Cond.selects RX8 yX8_store yX8_store ∈ lw_tbl := List.mem_of_getElem? (i := 839) rfl
theorem rp_X8_store : (parseMethodDescriptor yX8_store.desc).map (fun d => d.parameters.length) = some 2 := by decide +kernel
set_option maxRecDepth 100000 in
theorem ri_X8_held : Cond.instanceMethod yX8_held ∈ lw_tbl := List.mem_of_getElem? (i := 842) rfl
set_option maxRecDepth 100000 in
theorem rl_X8_held : Cond.selects RX8 yX8_held yX8_held ∈ lw_tbl := List.mem_of_getElem? (i := 843) rfl
theorem rp_X8_held : (parseMethodDescriptor yX8_held.desc).map (fun d => d.parameters.length) = some 1 := by decide +kernel
set_option maxRecDepth 100000 in
theorem ri_X8_lot : Cond.instanceMethod yX8_lot ∈ lw_tbl := List.mem_of_getElem? (i := 846) rfl
set_option maxRecDepth 100000 in
theorem rl_X8_lot : Cond.selects RX8 yX8_lot yX8_lot ∈ lw_tbl := List.mem_of_getElem? (i := 847) rfl
theorem rp_X8_lot : (parseMethodDescriptor yX8_lot.desc).map (fun d => d.parameters.length) = some 1 := by decide +kernel
set_option maxRecDepth 100000 in
theorem ri_X8_called : Cond.instanceMethod yX8_called ∈ lw_tbl := List.mem_of_getElem? (i := 831) rfl
set_option maxRecDepth 100000 in
theorem rl_X8_called : Cond.selects RX8 yX8_called yX8_called ∈ lw_tbl := List.mem_of_getElem? (i := 21) rfl
theorem rp_X8_called : (parseMethodDescriptor yX8_called.desc).map (fun d => d.parameters.length) = some 1 := by decide +kernel
set_option maxRecDepth 100000 in
theorem ri_X8_actingOf : Cond.instanceMethod yX8_actingOf ∈ lw_tbl := List.mem_of_getElem? (i := 827) rfl
set_option maxRecDepth 100000 in
theorem rl_X8_actingOf : Cond.selects RX8 yX8_actingOf yX8_actingOf ∈ lw_tbl := List.mem_of_getElem? (i := 20) rfl
theorem rp_X8_actingOf : (parseMethodDescriptor yX8_actingOf.desc).map (fun d => d.parameters.length) = some 1 := by decide +kernel
set_option maxRecDepth 100000 in
theorem ri_X8_acting : Cond.instanceMethod yX8_acting ∈ lw_tbl := List.mem_of_getElem? (i := 850) rfl
set_option maxRecDepth 100000 in
theorem rl_X8_acting : Cond.selects RX8 yX8_acting yX8_acting ∈ lw_tbl := List.mem_of_getElem? (i := 851) rfl
theorem rp_X8_acting : (parseMethodDescriptor yX8_acting.desc).map (fun d => d.parameters.length) = some 1 := by decide +kernel
set_option maxRecDepth 100000 in
theorem ri_X8_reads : Cond.instanceMethod yX8_reads ∈ lw_tbl := List.mem_of_getElem? (i := 854) rfl
set_option maxRecDepth 100000 in
theorem rl_X8_reads : Cond.selects RX8 yX8_reads yX8_reads ∈ lw_tbl := List.mem_of_getElem? (i := 855) rfl
theorem rp_X8_reads : (parseMethodDescriptor yX8_reads.desc).map (fun d => d.parameters.length) = some 1 := by decide +kernel
set_option maxRecDepth 100000 in
theorem ri_X8_areStores : Cond.instanceMethod yX8_areStores ∈ lw_tbl := List.mem_of_getElem? (i := 879) rfl
set_option maxRecDepth 100000 in
theorem rl_X8_areStores : Cond.selects RX8 yX8_areStores yX8_areStores ∈ lw_tbl := List.mem_of_getElem? (i := 26) rfl
theorem rp_X8_areStores : (parseMethodDescriptor yX8_areStores.desc).map (fun d => d.parameters.length) = some 1 := by decide +kernel
set_option maxRecDepth 100000 in
theorem ri_X8_find : Cond.instanceMethod yX8_find ∈ lw_tbl := List.mem_of_getElem? (i := 875) rfl
set_option maxRecDepth 100000 in
theorem rl_X8_find : Cond.selects RX8 yX8_find yX8_find ∈ lw_tbl := List.mem_of_getElem? (i := 25) rfl
theorem rp_X8_find : (parseMethodDescriptor yX8_find.desc).map (fun d => d.parameters.length) = some 4 := by decide +kernel
set_option maxRecDepth 100000 in
theorem ri_X8_copy : Cond.instanceMethod yX8_copy ∈ lw_tbl := List.mem_of_getElem? (i := 907) rfl
set_option maxRecDepth 100000 in
theorem rl_X8_copy : Cond.selects RX8 yX8_copy yX8_copy ∈ lw_tbl := List.mem_of_getElem? (i := 33) rfl
theorem rp_X8_copy : (parseMethodDescriptor yX8_copy.desc).map (fun d => d.parameters.length) = some 2 := by decide +kernel
set_option maxRecDepth 100000 in
theorem ri_X8_letGo : Cond.instanceMethod yX8_letGo ∈ lw_tbl := List.mem_of_getElem? (i := 903) rfl
set_option maxRecDepth 100000 in
theorem rl_X8_letGo : Cond.selects RX8 yX8_letGo yX8_letGo ∈ lw_tbl := List.mem_of_getElem? (i := 32) rfl
theorem rp_X8_letGo : (parseMethodDescriptor yX8_letGo.desc).map (fun d => d.parameters.length) = some 1 := by decide +kernel
set_option maxRecDepth 100000 in
theorem ri_X8_goes : Cond.instanceMethod yX8_goes ∈ lw_tbl := List.mem_of_getElem? (i := 899) rfl
set_option maxRecDepth 100000 in
theorem rl_X8_goes : Cond.selects RX8 yX8_goes yX8_goes ∈ lw_tbl := List.mem_of_getElem? (i := 31) rfl
theorem rp_X8_goes : (parseMethodDescriptor yX8_goes.desc).map (fun d => d.parameters.length) = some 0 := by decide +kernel
set_option maxRecDepth 100000 in
theorem ri_X8_keepNow : Cond.instanceMethod yX8_keepNow ∈ lw_tbl := List.mem_of_getElem? (i := 895) rfl
set_option maxRecDepth 100000 in
theorem rl_X8_keepNow : Cond.selects RX8 yX8_keepNow yX8_keepNow ∈ lw_tbl := List.mem_of_getElem? (i := 30) rfl
theorem rp_X8_keepNow : (parseMethodDescriptor yX8_keepNow.desc).map (fun d => d.parameters.length) = some 0 := by decide +kernel
set_option maxRecDepth 100000 in
theorem ri_X8_comes : Cond.instanceMethod yX8_comes ∈ lw_tbl := List.mem_of_getElem? (i := 887) rfl
set_option maxRecDepth 100000 in
theorem rl_X8_comes : Cond.selects RX8 yX8_comes yX8_comes ∈ lw_tbl := List.mem_of_getElem? (i := 28) rfl
theorem rp_X8_comes : (parseMethodDescriptor yX8_comes.desc).map (fun d => d.parameters.length) = some 0 := by decide +kernel
set_option maxRecDepth 100000 in
theorem ri_X8_around : Cond.instanceMethod yX8_around ∈ lw_tbl := List.mem_of_getElem? (i := 883) rfl
set_option maxRecDepth 100000 in
theorem rl_X8_around : Cond.selects RX8 yX8_around yX8_around ∈ lw_tbl := List.mem_of_getElem? (i := 27) rfl
theorem rp_X8_around : (parseMethodDescriptor yX8_around.desc).map (fun d => d.parameters.length) = some 2 := by decide +kernel
set_option maxRecDepth 100000 in
theorem ri_X8_enter : Cond.instanceMethod yX8_enter ∈ lw_tbl := List.mem_of_getElem? (i := 871) rfl
set_option maxRecDepth 100000 in
theorem rl_X8_enter : Cond.selects RX8 yX8_enter yX8_enter ∈ lw_tbl := List.mem_of_getElem? (i := 24) rfl
theorem rp_X8_enter : (parseMethodDescriptor yX8_enter.desc).map (fun d => d.parameters.length) = some 4 := by decide +kernel
set_option maxRecDepth 100000 in
theorem ri_X8_leave : Cond.instanceMethod yX8_leave ∈ lw_tbl := List.mem_of_getElem? (i := 891) rfl
set_option maxRecDepth 100000 in
theorem rl_X8_leave : Cond.selects RX8 yX8_leave yX8_leave ∈ lw_tbl := List.mem_of_getElem? (i := 29) rfl
theorem rp_X8_leave : (parseMethodDescriptor yX8_leave.desc).map (fun d => d.parameters.length) = some 0 := by decide +kernel
set_option maxRecDepth 100000 in
theorem ri_X8_refuse : Cond.instanceMethod yX8_refuse ∈ lw_tbl := List.mem_of_getElem? (i := 915) rfl
set_option maxRecDepth 100000 in
theorem rl_X8_refuse : Cond.selects RX8 yX8_refuse yX8_refuse ∈ lw_tbl := List.mem_of_getElem? (i := 35) rfl
theorem rp_X8_refuse : (parseMethodDescriptor yX8_refuse.desc).map (fun d => d.parameters.length) = some 1 := by decide +kernel
set_option maxRecDepth 100000 in
theorem ri_X8_put : Cond.instanceMethod yX8_put ∈ lw_tbl := List.mem_of_getElem? (i := 922) rfl
set_option maxRecDepth 100000 in
theorem rl_X8_put : Cond.selects RX8 yX8_put yX8_put ∈ lw_tbl := List.mem_of_getElem? (i := 36) rfl
theorem rp_X8_put : (parseMethodDescriptor yX8_put.desc).map (fun d => d.parameters.length) = some 2 := by decide +kernel
set_option maxRecDepth 100000 in
theorem rs_X8_needs : Cond.static yX8_needs ∈ lw_tbl := List.mem_of_getElem? (i := 918) rfl
theorem rp_X8_needs : (parseMethodDescriptor yX8_needs.desc).map (fun d => d.parameters.length) = some 1 := by decide +kernel
set_option maxRecDepth 100000 in
theorem ri_X8_step : Cond.instanceMethod yX8_step ∈ lw_tbl := List.mem_of_getElem? (i := 911) rfl
set_option maxRecDepth 100000 in
theorem rl_X8_step : Cond.selects RX8 yX8_step yX8_step ∈ lw_tbl := List.mem_of_getElem? (i := 34) rfl
theorem rp_X8_step : (parseMethodDescriptor yX8_step.desc).map (fun d => d.parameters.length) = some 0 := by decide +kernel
set_option maxRecDepth 100000 in
theorem ri_X8_calls : Cond.instanceMethod yX8_calls ∈ lw_tbl := List.mem_of_getElem? (i := 926) rfl
set_option maxRecDepth 100000 in
theorem rl_X8_calls : Cond.selects RX8 yX8_calls yX8_calls ∈ lw_tbl := List.mem_of_getElem? (i := 37) rfl
theorem rp_X8_calls : (parseMethodDescriptor yX8_calls.desc).map (fun d => d.parameters.length) = some 2 := by decide +kernel
set_option maxRecDepth 100000 in
theorem ri_X8_acts : Cond.instanceMethod yX8_acts ∈ lw_tbl := List.mem_of_getElem? (i := 930) rfl
set_option maxRecDepth 100000 in
theorem rl_X8_acts : Cond.selects RX8 yX8_acts yX8_acts ∈ lw_tbl := List.mem_of_getElem? (i := 38) rfl
theorem rp_X8_acts : (parseMethodDescriptor yX8_acts.desc).map (fun d => d.parameters.length) = some 2 := by decide +kernel
set_option maxRecDepth 100000 in
theorem ri_X8_go : Cond.instanceMethod yX8_go ∈ lw_tbl := List.mem_of_getElem? (i := 867) rfl
set_option maxRecDepth 100000 in
theorem rl_X8_go : Cond.selects RX8 yX8_go yX8_go ∈ lw_tbl := List.mem_of_getElem? (i := 23) rfl
theorem rp_X8_go : (parseMethodDescriptor yX8_go.desc).map (fun d => d.parameters.length) = some 7 := by decide +kernel
set_option maxRecDepth 100000 in
theorem ri_X8_toldSet : Cond.instanceMethod yX8_toldSet ∈ lw_tbl := List.mem_of_getElem? (i := 863) rfl
set_option maxRecDepth 100000 in
theorem rl_X8_toldSet : Cond.selects RX8 yX8_toldSet yX8_toldSet ∈ lw_tbl := List.mem_of_getElem? (i := 22) rfl
theorem rp_X8_toldSet : (parseMethodDescriptor yX8_toldSet.desc).map (fun d => d.parameters.length) = some 0 := by decide +kernel
set_option maxRecDepth 100000 in
theorem ri_X8_run : Cond.instanceMethod yX8_run ∈ lw_tbl := List.mem_of_getElem? (i := 858) rfl
set_option maxRecDepth 100000 in
theorem rl_X8_run : Cond.selects RX8 yX8_run yX8_run ∈ lw_tbl := List.mem_of_getElem? (i := 859) rfl
theorem rp_X8_run : (parseMethodDescriptor yX8_run.desc).map (fun d => d.parameters.length) = some 4 := by decide +kernel
set_option maxRecDepth 100000 in
theorem ri_X8_answer : Cond.instanceMethod yX8_answer ∈ lw_tbl := List.mem_of_getElem? (i := 934) rfl
set_option maxRecDepth 100000 in
theorem rl_X8_answer : Cond.selects RX8 yX8_answer yX8_answer ∈ lw_tbl := List.mem_of_getElem? (i := 935) rfl
theorem rp_X8_answer : (parseMethodDescriptor yX8_answer.desc).map (fun d => d.parameters.length) = some 0 := by decide +kernel
set_option maxRecDepth 100000 in
theorem ri_X8_ran : Cond.instanceMethod yX8_ran ∈ lw_tbl := List.mem_of_getElem? (i := 938) rfl
set_option maxRecDepth 100000 in
theorem rl_X8_ran : Cond.selects RX8 yX8_ran yX8_ran ∈ lw_tbl := List.mem_of_getElem? (i := 939) rfl
theorem rp_X8_ran : (parseMethodDescriptor yX8_ran.desc).map (fun d => d.parameters.length) = some 1 := by decide +kernel
set_option maxRecDepth 100000 in
theorem ri_X8_keep : Cond.instanceMethod yX8_keep ∈ lw_tbl := List.mem_of_getElem? (i := 942) rfl
set_option maxRecDepth 100000 in
theorem rl_X8_keep : Cond.selects RX8 yX8_keep yX8_keep ∈ lw_tbl := List.mem_of_getElem? (i := 943) rfl
theorem rp_X8_keep : (parseMethodDescriptor yX8_keep.desc).map (fun d => d.parameters.length) = some 2 := by decide +kernel
set_option maxRecDepth 100000 in
theorem ri_X8_room : Cond.instanceMethod yX8_room ∈ lw_tbl := List.mem_of_getElem? (i := 946) rfl
set_option maxRecDepth 100000 in
theorem rl_X8_room : Cond.selects RX8 yX8_room yX8_room ∈ lw_tbl := List.mem_of_getElem? (i := 947) rfl
theorem rp_X8_room : (parseMethodDescriptor yX8_room.desc).map (fun d => d.parameters.length) = some 2 := by decide +kernel
set_option maxRecDepth 100000 in
theorem ri_X8_forget : Cond.instanceMethod yX8_forget ∈ lw_tbl := List.mem_of_getElem? (i := 950) rfl
set_option maxRecDepth 100000 in
theorem rl_X8_forget : Cond.selects RX8 yX8_forget yX8_forget ∈ lw_tbl := List.mem_of_getElem? (i := 951) rfl
theorem rp_X8_forget : (parseMethodDescriptor yX8_forget.desc).map (fun d => d.parameters.length) = some 0 := by decide +kernel
set_option maxRecDepth 100000 in
theorem ri_X8_kept : Cond.instanceMethod yX8_kept ∈ lw_tbl := List.mem_of_getElem? (i := 954) rfl
set_option maxRecDepth 100000 in
theorem rl_X8_kept : Cond.selects RX8 yX8_kept yX8_kept ∈ lw_tbl := List.mem_of_getElem? (i := 955) rfl
theorem rp_X8_kept : (parseMethodDescriptor yX8_kept.desc).map (fun d => d.parameters.length) = some 2 := by decide +kernel
set_option maxRecDepth 100000 in
theorem ri_X8_log : Cond.instanceMethod yX8_log ∈ lw_tbl := List.mem_of_getElem? (i := 958) rfl
set_option maxRecDepth 100000 in
theorem rl_X8_log : Cond.selects RX8 yX8_log yX8_log ∈ lw_tbl := List.mem_of_getElem? (i := 959) rfl
theorem rp_X8_log : (parseMethodDescriptor yX8_log.desc).map (fun d => d.parameters.length) = some 4 := by decide +kernel
set_option maxRecDepth 100000 in
theorem ri_X8_clear : Cond.instanceMethod yX8_clear ∈ lw_tbl := List.mem_of_getElem? (i := 962) rfl
set_option maxRecDepth 100000 in
theorem rl_X8_clear : Cond.selects RX8 yX8_clear yX8_clear ∈ lw_tbl := List.mem_of_getElem? (i := 963) rfl
theorem rp_X8_clear : (parseMethodDescriptor yX8_clear.desc).map (fun d => d.parameters.length) = some 0 := by decide +kernel
set_option maxRecDepth 100000 in
theorem ri_X8_pure : Cond.instanceMethod yX8_pure ∈ lw_tbl := List.mem_of_getElem? (i := 971) rfl
set_option maxRecDepth 100000 in
theorem rl_X8_pure : Cond.selects RX8 yX8_pure yX8_pure ∈ lw_tbl := List.mem_of_getElem? (i := 39) rfl
theorem rp_X8_pure : (parseMethodDescriptor yX8_pure.desc).map (fun d => d.parameters.length) = some 0 := by decide +kernel
set_option maxRecDepth 100000 in
theorem ri_X8_costOf : Cond.instanceMethod yX8_costOf ∈ lw_tbl := List.mem_of_getElem? (i := 975) rfl
set_option maxRecDepth 100000 in
theorem rl_X8_costOf : Cond.selects RX8 yX8_costOf yX8_costOf ∈ lw_tbl := List.mem_of_getElem? (i := 40) rfl
theorem rp_X8_costOf : (parseMethodDescriptor yX8_costOf.desc).map (fun d => d.parameters.length) = some 2 := by decide +kernel
set_option maxRecDepth 100000 in
theorem ri_X8_cost : Cond.instanceMethod yX8_cost ∈ lw_tbl := List.mem_of_getElem? (i := 966) rfl
set_option maxRecDepth 100000 in
theorem rl_X8_cost : Cond.selects RX8 yX8_cost yX8_cost ∈ lw_tbl := List.mem_of_getElem? (i := 967) rfl
theorem rp_X8_cost : (parseMethodDescriptor yX8_cost.desc).map (fun d => d.parameters.length) = some 2 := by decide +kernel
set_option maxRecDepth 100000 in
theorem rs_X8_bits : Cond.static yX8_bits ∈ lw_tbl := List.mem_of_getElem? (i := 982) rfl
theorem rp_X8_bits : (parseMethodDescriptor yX8_bits.desc).map (fun d => d.parameters.length) = some 1 := by decide +kernel
set_option maxRecDepth 100000 in
theorem ri_X8_best : Cond.instanceMethod yX8_best ∈ lw_tbl := List.mem_of_getElem? (i := 978) rfl
set_option maxRecDepth 100000 in
theorem rl_X8_best : Cond.selects RX8 yX8_best yX8_best ∈ lw_tbl := List.mem_of_getElem? (i := 979) rfl
theorem rp_X8_best : (parseMethodDescriptor yX8_best.desc).map (fun d => d.parameters.length) = some 1 := by decide +kernel
set_option maxRecDepth 100000 in
theorem ri_X8_told : Cond.instanceMethod yX8_told ∈ lw_tbl := List.mem_of_getElem? (i := 985) rfl
set_option maxRecDepth 100000 in
theorem rl_X8_told : Cond.selects RX8 yX8_told yX8_told ∈ lw_tbl := List.mem_of_getElem? (i := 986) rfl
theorem rp_X8_told : (parseMethodDescriptor yX8_told.desc).map (fun d => d.parameters.length) = some 1 := by decide +kernel
set_option maxRecDepth 100000 in
theorem rs_J6_bitCount_0f7a4 : Cond.static yJ6_bitCount_0f7a4 ∈ lw_tbl := List.mem_of_getElem? (i := 370) rfl
theorem rp_J6_bitCount_0f7a4 : (parseMethodDescriptor yJ6_bitCount_0f7a4.desc).map (fun d => d.parameters.length) = some 1 := by decide +kernel
set_option maxRecDepth 100000 in
theorem rk_0_3 : Cond.methodLink RX0 3 objectInit ∈ lw_tbl := List.mem_of_getElem? (i := 190) rfl
set_option maxRecDepth 100000 in
theorem rk_1_3 : Cond.methodLink RX1 3 objectInit ∈ lw_tbl := List.mem_of_getElem? (i := 116) rfl
set_option maxRecDepth 100000 in
theorem rk_1_49 : Cond.methodLinkNest RX1 49 yX7_isSet RX7 ∈ lw_tbl := List.mem_of_getElem? (i := 514) rfl
set_option maxRecDepth 100000 in
theorem rk_1_53 : Cond.methodLink RX1 53 yX0_numberOf ∈ lw_tbl := List.mem_of_getElem? (i := 515) rfl
set_option maxRecDepth 100000 in
theorem rk_1_57 : Cond.methodLink RX1 57 yX6_valueOf ∈ lw_tbl := List.mem_of_getElem? (i := 520) rfl
set_option maxRecDepth 100000 in
theorem rk_1_62 : Cond.methodLink RX1 62 yX1_numbersAreAlike ∈ lw_tbl := List.mem_of_getElem? (i := 510) rfl
set_option maxRecDepth 100000 in
theorem rk_1_66 : Cond.methodLink RX1 66 yX1_storesAreAlike ∈ lw_tbl := List.mem_of_getElem? (i := 516) rfl
set_option maxRecDepth 100000 in
theorem rk_2_3 : Cond.methodLink RX2 3 objectInit ∈ lw_tbl := List.mem_of_getElem? (i := 183) rfl
set_option maxRecDepth 100000 in
theorem rk_2_29 : Cond.methodLink RX2 29 yX0_init ∈ lw_tbl := List.mem_of_getElem? (i := 187) rfl
set_option maxRecDepth 100000 in
theorem rk_2_46 : Cond.methodLink RX2 46 yX0_begin ∈ lw_tbl := List.mem_of_getElem? (i := 427) rfl
set_option maxRecDepth 100000 in
theorem rk_2_50 : Cond.methodLink RX2 50 yX2_enter ∈ lw_tbl := List.mem_of_getElem? (i := 431) rfl
set_option maxRecDepth 100000 in
theorem rk_2_67 : Cond.methodLinkNest RX2 67 yX7_isSet RX7 ∈ lw_tbl := List.mem_of_getElem? (i := 435) rfl
set_option maxRecDepth 100000 in
theorem rk_2_71 : Cond.methodLink RX2 71 yX2_walk ∈ lw_tbl := List.mem_of_getElem? (i := 436) rfl
set_option maxRecDepth 100000 in
theorem rk_2_74 : Cond.methodLink RX2 74 yX5_firstThatHolds ∈ lw_tbl := List.mem_of_getElem? (i := 502) rfl
set_option maxRecDepth 100000 in
theorem rk_2_80 : Cond.methodLink RX2 80 yX5_has ∈ lw_tbl := List.mem_of_getElem? (i := 521) rfl
set_option maxRecDepth 100000 in
theorem rk_2_84 : Cond.methodLink RX2 84 yX5_at ∈ lw_tbl := List.mem_of_getElem? (i := 525) rfl
set_option maxRecDepth 100000 in
theorem rk_2_88 : Cond.methodLink RX2 88 yX2_fits ∈ lw_tbl := List.mem_of_getElem? (i := 530) rfl
set_option maxRecDepth 100000 in
theorem rk_2_92 : Cond.methodLink RX2 92 yX2_recall ∈ lw_tbl := List.mem_of_getElem? (i := 534) rfl
set_option maxRecDepth 100000 in
theorem rk_2_96 : Cond.methodLink RX2 96 yX5_add ∈ lw_tbl := List.mem_of_getElem? (i := 542) rfl
set_option maxRecDepth 100000 in
theorem rk_2_105 : Cond.methodLink RX2 105 yX5_touch ∈ lw_tbl := List.mem_of_getElem? (i := 538) rfl
set_option maxRecDepth 100000 in
theorem rk_2_115 : Cond.methodLink RX2 115 yX3_lengthOf ∈ lw_tbl := List.mem_of_getElem? (i := 440) rfl
set_option maxRecDepth 100000 in
theorem rk_2_121 : Cond.methodLink RX2 121 yX3_codeOf ∈ lw_tbl := List.mem_of_getElem? (i := 441) rfl
set_option maxRecDepth 100000 in
theorem rk_2_125 : Cond.methodLink RX2 125 yX2_perform ∈ lw_tbl := List.mem_of_getElem? (i := 442) rfl
set_option maxRecDepth 100000 in
theorem rk_2_131 : Cond.methodLink RX2 131 yX0_take ∈ lw_tbl := List.mem_of_getElem? (i := 471) rfl
set_option maxRecDepth 100000 in
theorem rk_2_135 : Cond.methodLink RX2 135 yX0_last ∈ lw_tbl := List.mem_of_getElem? (i := 498) rfl
set_option maxRecDepth 100000 in
theorem rk_2_138 : Cond.methodLink RX2 138 yX0_put ∈ lw_tbl := List.mem_of_getElem? (i := 446) rfl
set_option maxRecDepth 100000 in
theorem rk_2_141 : Cond.methodLink RX2 141 yX2_readNumber ∈ lw_tbl := List.mem_of_getElem? (i := 450) rfl
set_option maxRecDepth 100000 in
theorem rk_2_145 : Cond.methodLink RX2 145 yX2_readStore ∈ lw_tbl := List.mem_of_getElem? (i := 462) rfl
set_option maxRecDepth 100000 in
theorem rk_2_148 : Cond.methodLink RX2 148 yX2_writeStore ∈ lw_tbl := List.mem_of_getElem? (i := 467) rfl
set_option maxRecDepth 100000 in
theorem rk_2_151 : Cond.methodLink RX2 151 yX2_callRoutine ∈ lw_tbl := List.mem_of_getElem? (i := 476) rfl
set_option maxRecDepth 100000 in
theorem rk_2_154 : Cond.methodLink RX2 154 yX2_combine ∈ lw_tbl := List.mem_of_getElem? (i := 485) rfl
set_option maxRecDepth 100000 in
theorem rk_2_157 : Cond.methodLink RX2 157 yX2_changeEnd ∈ lw_tbl := List.mem_of_getElem? (i := 489) rfl
set_option maxRecDepth 100000 in
theorem rk_2_160 : Cond.methodLink RX2 160 yX0_isFull ∈ lw_tbl := List.mem_of_getElem? (i := 454) rfl
set_option maxRecDepth 100000 in
theorem rk_2_167 : Cond.methodLink RX2 167 yX0_numberOf ∈ lw_tbl := List.mem_of_getElem? (i := 458) rfl
set_option maxRecDepth 100000 in
theorem rk_2_170 : Cond.methodLink RX2 170 yX6_valueOf ∈ lw_tbl := List.mem_of_getElem? (i := 466) rfl
set_option maxRecDepth 100000 in
theorem rk_2_175 : Cond.methodLink RX2 175 yX6_setValue ∈ lw_tbl := List.mem_of_getElem? (i := 475) rfl
set_option maxRecDepth 100000 in
theorem rk_2_179 : Cond.methodLink RX2 179 yX3_hasRoutine ∈ lw_tbl := List.mem_of_getElem? (i := 480) rfl
set_option maxRecDepth 100000 in
theorem rk_2_182 : Cond.methodLink RX2 182 yX0_joinCalled ∈ lw_tbl := List.mem_of_getElem? (i := 481) rfl
set_option maxRecDepth 100000 in
theorem rk_2_186 : Cond.methodLink RX2 186 yX6_nextLot ∈ lw_tbl := List.mem_of_getElem? (i := 493) rfl
set_option maxRecDepth 100000 in
theorem rk_3_3 : Cond.methodLink RX3 3 objectInit ∈ lw_tbl := List.mem_of_getElem? (i := 66) rfl
set_option maxRecDepth 100000 in
theorem rk_3_33 : Cond.methodLink RX3 33 yX3_hasRoutine ∈ lw_tbl := List.mem_of_getElem? (i := 344) rfl
set_option maxRecDepth 100000 in
theorem rk_3_37 : Cond.methodLink RX3 37 yX3_lengthOf ∈ lw_tbl := List.mem_of_getElem? (i := 349) rfl
set_option maxRecDepth 100000 in
theorem rk_3_41 : Cond.methodLink RX3 41 yX3_isFull ∈ lw_tbl := List.mem_of_getElem? (i := 328) rfl
set_option maxRecDepth 100000 in
theorem rk_3_45 : Cond.methodLink RX3 45 yX3_spreadToCallers ∈ lw_tbl := List.mem_of_getElem? (i := 350) rfl
set_option maxRecDepth 100000 in
theorem rk_3_48 : Cond.methodLink RX3 48 yX3_gatherFromCalled ∈ lw_tbl := List.mem_of_getElem? (i := 354) rfl
set_option maxRecDepth 100000 in
theorem rk_3_52 : Cond.methodLinkNest RX3 52 yX7_isSet RX7 ∈ lw_tbl := List.mem_of_getElem? (i := 358) rfl
set_option maxRecDepth 100000 in
theorem rk_3_56 : Cond.methodLink RX3 56 yX3_firstKeepable ∈ lw_tbl := List.mem_of_getElem? (i := 365) rfl
set_option maxRecDepth 100000 in
theorem rk_3_59 : Cond.methodLink RX3 59 yJ6_bitCount_0f7a4 ∈ lw_tbl := List.mem_of_getElem? (i := 369) rfl
set_option maxRecDepth 100000 in
theorem rk_4_3 : Cond.methodLink RX4 3 objectInit ∈ lw_tbl := List.mem_of_getElem? (i := 271) rfl
set_option maxRecDepth 100000 in
theorem rk_5_3 : Cond.methodLink RX5 3 objectInit ∈ lw_tbl := List.mem_of_getElem? (i := 109) rfl
set_option maxRecDepth 100000 in
theorem rk_5_17 : Cond.methodLink RX5 17 yX1_init ∈ lw_tbl := List.mem_of_getElem? (i := 113) rfl
set_option maxRecDepth 100000 in
theorem rk_5_31 : Cond.methodLink RX5 31 yX5_has ∈ lw_tbl := List.mem_of_getElem? (i := 529) rfl
set_option maxRecDepth 100000 in
theorem rk_5_35 : Cond.methodLink RX5 35 yX1_holdsFor ∈ lw_tbl := List.mem_of_getElem? (i := 506) rfl
set_option maxRecDepth 100000 in
theorem rk_5_42 : Cond.methodLink RX5 42 yX5_nextToGo ∈ lw_tbl := List.mem_of_getElem? (i := 546) rfl
set_option maxRecDepth 100000 in
theorem rk_5_46 : Cond.methodLink RX5 46 yX5_drop ∈ lw_tbl := List.mem_of_getElem? (i := 554) rfl
set_option maxRecDepth 100000 in
theorem rk_5_50 : Cond.methodLink RX5 50 yX1_fill ∈ lw_tbl := List.mem_of_getElem? (i := 558) rfl
set_option maxRecDepth 100000 in
theorem rk_5_54 : Cond.methodLink RX5 54 yX5_touch ∈ lw_tbl := List.mem_of_getElem? (i := 562) rfl
set_option maxRecDepth 100000 in
theorem rk_5_58 : Cond.methodLink RX5 58 yX5_goesAheadOf ∈ lw_tbl := List.mem_of_getElem? (i := 550) rfl
set_option maxRecDepth 100000 in
theorem rk_5_68 : Cond.methodLink RX5 68 Lib.Math.max.name ∈ lw_tbl := List.mem_of_getElem? (i := 591) rfl
set_option maxRecDepth 100000 in
theorem rk_6_3 : Cond.methodLink RX6 3 objectInit ∈ lw_tbl := List.mem_of_getElem? (i := 95) rfl
set_option maxRecDepth 100000 in
theorem rk_7_3 : Cond.methodLink RX7 3 objectInit ∈ lw_tbl := List.mem_of_getElem? (i := 58) rfl
set_option maxRecDepth 100000 in
theorem rk_7_11 : Cond.methodLink RX7 11 yX3_init ∈ lw_tbl := List.mem_of_getElem? (i := 63) rfl
set_option maxRecDepth 100000 in
theorem rk_7_18 : Cond.methodLink RX7 18 yX6_init ∈ lw_tbl := List.mem_of_getElem? (i := 92) rfl
set_option maxRecDepth 100000 in
theorem rk_7_25 : Cond.methodLink RX7 25 yX5_init ∈ lw_tbl := List.mem_of_getElem? (i := 106) rfl
set_option maxRecDepth 100000 in
theorem rk_7_32 : Cond.methodLink RX7 32 yX2_init ∈ lw_tbl := List.mem_of_getElem? (i := 180) rfl
set_option maxRecDepth 100000 in
theorem rk_7_50 : Cond.methodLink RX7 50 yX4_init ∈ lw_tbl := List.mem_of_getElem? (i := 268) rfl
set_option maxRecDepth 100000 in
theorem rk_7_63 : Cond.methodLink RX7 63 yX3_isFull ∈ lw_tbl := List.mem_of_getElem? (i := 316) rfl
set_option maxRecDepth 100000 in
theorem rk_7_67 : Cond.methodLink RX7 67 yX5_dropAll ∈ lw_tbl := List.mem_of_getElem? (i := 320) rfl
set_option maxRecDepth 100000 in
theorem rk_7_71 : Cond.methodLink RX7 71 yX3_addRoutine ∈ lw_tbl := List.mem_of_getElem? (i := 324) rfl
set_option maxRecDepth 100000 in
theorem rk_7_74 : Cond.methodLink RX7 74 yX3_hasRoutine ∈ lw_tbl := List.mem_of_getElem? (i := 333) rfl
set_option maxRecDepth 100000 in
theorem rk_7_78 : Cond.methodLink RX7 78 yX7_isCode ∈ lw_tbl := List.mem_of_getElem? (i := 337) rfl
set_option maxRecDepth 100000 in
theorem rk_7_81 : Cond.methodLink RX7 81 yX3_lengthOf ∈ lw_tbl := List.mem_of_getElem? (i := 340) rfl
set_option maxRecDepth 100000 in
theorem rk_7_85 : Cond.methodLink RX7 85 yX3_addCode ∈ lw_tbl := List.mem_of_getElem? (i := 345) rfl
set_option maxRecDepth 100000 in
theorem rk_7_89 : Cond.methodLink RX7 89 yX3_keepable ∈ lw_tbl := List.mem_of_getElem? (i := 361) rfl
set_option maxRecDepth 100000 in
theorem rk_7_92 : Cond.methodLink RX7 92 yX3_codeOf ∈ lw_tbl := List.mem_of_getElem? (i := 379) rfl
set_option maxRecDepth 100000 in
theorem rk_7_96 : Cond.methodLink RX7 96 yX6_valueOf ∈ lw_tbl := List.mem_of_getElem? (i := 387) rfl
set_option maxRecDepth 100000 in
theorem rk_7_99 : Cond.methodLink RX7 99 yX6_setValue ∈ lw_tbl := List.mem_of_getElem? (i := 391) rfl
set_option maxRecDepth 100000 in
theorem rk_7_105 : Cond.methodLink RX7 105 yX3_actingOf ∈ lw_tbl := List.mem_of_getElem? (i := 407) rfl
set_option maxRecDepth 100000 in
theorem rk_7_108 : Cond.methodLink RX7 108 yX3_readingOf ∈ lw_tbl := List.mem_of_getElem? (i := 415) rfl
set_option maxRecDepth 100000 in
theorem rk_7_111 : Cond.methodLink RX7 111 yX2_start ∈ lw_tbl := List.mem_of_getElem? (i := 423) rfl
set_option maxRecDepth 100000 in
theorem rk_7_136 : Cond.methodLink RX7 136 yX7_isSet ∈ lw_tbl := List.mem_of_getElem? (i := 575) rfl
set_option maxRecDepth 100000 in
theorem rk_7_140 : Cond.methodLink RX7 140 yX5_dropOf ∈ lw_tbl := List.mem_of_getElem? (i := 576) rfl
set_option maxRecDepth 100000 in
theorem rk_7_144 : Cond.methodLink RX7 144 yX7_isRoom ∈ lw_tbl := List.mem_of_getElem? (i := 584) rfl
set_option maxRecDepth 100000 in
theorem rk_7_147 : Cond.methodLink RX7 147 yX5_furnish ∈ lw_tbl := List.mem_of_getElem? (i := 587) rfl
set_option maxRecDepth 100000 in
theorem rk_7_150 : Cond.methodLink RX7 150 yX5_has ∈ lw_tbl := List.mem_of_getElem? (i := 602) rfl
set_option maxRecDepth 100000 in
theorem rk_7_153 : Cond.methodLink RX7 153 yX5_at ∈ lw_tbl := List.mem_of_getElem? (i := 603) rfl
set_option maxRecDepth 100000 in
theorem rk_7_157 : Cond.methodLink RX7 157 yX1_fact ∈ lw_tbl := List.mem_of_getElem? (i := 604) rfl
set_option maxRecDepth 100000 in
theorem rk_7_163 : Cond.methodLink RX7 163 yX1_numberWas ∈ lw_tbl := List.mem_of_getElem? (i := 608) rfl
set_option maxRecDepth 100000 in
theorem rk_7_166 : Cond.methodLink RX7 166 yX1_storeWas ∈ lw_tbl := List.mem_of_getElem? (i := 612) rfl
set_option maxRecDepth 100000 in
theorem rk_7_169 : Cond.methodLink RX7 169 yX4_add ∈ lw_tbl := List.mem_of_getElem? (i := 620) rfl
set_option maxRecDepth 100000 in
theorem rk_7_177 : Cond.methodLink RX7 177 yX7_tryOut ∈ lw_tbl := List.mem_of_getElem? (i := 633) rfl
set_option maxRecDepth 100000 in
theorem rk_7_181 : Cond.methodLink RX7 181 yX3_firstKeepable ∈ lw_tbl := List.mem_of_getElem? (i := 649) rfl
set_option maxRecDepth 100000 in
theorem rk_7_184 : Cond.methodLink RX7 184 yJ6_bitCount_0f7a4 ∈ lw_tbl := List.mem_of_getElem? (i := 650) rfl
set_option maxRecDepth 100000 in
theorem rk_7_189 : Cond.methodLink RX7 189 yX7_pick ∈ lw_tbl := List.mem_of_getElem? (i := 651) rfl
set_option maxRecDepth 100000 in
theorem rk_7_202 : Cond.methodLink RX7 202 yX6_copyFrom ∈ lw_tbl := List.mem_of_getElem? (i := 637) rfl
set_option maxRecDepth 100000 in
theorem rk_7_206 : Cond.methodLink RX7 206 yX4_fact ∈ lw_tbl := List.mem_of_getElem? (i := 641) rfl
set_option maxRecDepth 100000 in
theorem rk_8_1 : Cond.methodLink RX8 1 objectInit ∈ lw_tbl := List.mem_of_getElem? (i := 663) rfl
set_option maxRecDepth 100000 in
theorem rk_8_102 : Cond.methodLink RX8 102 yX8_in ∈ lw_tbl := List.mem_of_getElem? (i := 819) rfl
set_option maxRecDepth 100000 in
theorem rk_8_106 : Cond.methodLink RX8 106 yX8_isRoutine ∈ lw_tbl := List.mem_of_getElem? (i := 815) rfl
set_option maxRecDepth 100000 in
theorem rk_8_110 : Cond.methodLink RX8 110 yX8_isCode ∈ lw_tbl := List.mem_of_getElem? (i := 822) rfl
set_option maxRecDepth 100000 in
theorem rk_8_113 : Cond.methodLink RX8 113 yX8_actingOf ∈ lw_tbl := List.mem_of_getElem? (i := 825) rfl
set_option maxRecDepth 100000 in
theorem rk_8_117 : Cond.methodLink RX8 117 yX8_called ∈ lw_tbl := List.mem_of_getElem? (i := 829) rfl
set_option maxRecDepth 100000 in
theorem rk_8_123 : Cond.methodLink RX8 123 yX8_areStores ∈ lw_tbl := List.mem_of_getElem? (i := 877) rfl
set_option maxRecDepth 100000 in
theorem rk_8_126 : Cond.methodLink RX8 126 yX8_copy ∈ lw_tbl := List.mem_of_getElem? (i := 905) rfl
set_option maxRecDepth 100000 in
theorem rk_8_136 : Cond.methodLink RX8 136 yX8_goes ∈ lw_tbl := List.mem_of_getElem? (i := 897) rfl
set_option maxRecDepth 100000 in
theorem rk_8_140 : Cond.methodLink RX8 140 yX8_letGo ∈ lw_tbl := List.mem_of_getElem? (i := 901) rfl
set_option maxRecDepth 100000 in
theorem rk_8_165 : Cond.methodLink RX8 165 yX8_find ∈ lw_tbl := List.mem_of_getElem? (i := 873) rfl
set_option maxRecDepth 100000 in
theorem rk_8_172 : Cond.methodLink RX8 172 yX8_around ∈ lw_tbl := List.mem_of_getElem? (i := 881) rfl
set_option maxRecDepth 100000 in
theorem rk_8_175 : Cond.methodLink RX8 175 yX8_comes ∈ lw_tbl := List.mem_of_getElem? (i := 885) rfl
set_option maxRecDepth 100000 in
theorem rk_8_185 : Cond.methodLink RX8 185 yX8_keepNow ∈ lw_tbl := List.mem_of_getElem? (i := 893) rfl
set_option maxRecDepth 100000 in
theorem rk_8_188 : Cond.methodLink RX8 188 yX8_refuse ∈ lw_tbl := List.mem_of_getElem? (i := 913) rfl
set_option maxRecDepth 100000 in
theorem rk_8_194 : Cond.methodLink RX8 194 yX8_needs ∈ lw_tbl := List.mem_of_getElem? (i := 917) rfl
set_option maxRecDepth 100000 in
theorem rk_8_197 : Cond.methodLink RX8 197 yX8_put ∈ lw_tbl := List.mem_of_getElem? (i := 920) rfl
set_option maxRecDepth 100000 in
theorem rk_8_200 : Cond.methodLink RX8 200 yX8_calls ∈ lw_tbl := List.mem_of_getElem? (i := 924) rfl
set_option maxRecDepth 100000 in
theorem rk_8_203 : Cond.methodLink RX8 203 yX8_acts ∈ lw_tbl := List.mem_of_getElem? (i := 928) rfl
set_option maxRecDepth 100000 in
theorem rk_8_206 : Cond.methodLink RX8 206 yX8_enter ∈ lw_tbl := List.mem_of_getElem? (i := 869) rfl
set_option maxRecDepth 100000 in
theorem rk_8_211 : Cond.methodLink RX8 211 yX8_leave ∈ lw_tbl := List.mem_of_getElem? (i := 889) rfl
set_option maxRecDepth 100000 in
theorem rk_8_214 : Cond.methodLink RX8 214 yX8_step ∈ lw_tbl := List.mem_of_getElem? (i := 909) rfl
set_option maxRecDepth 100000 in
theorem rk_8_217 : Cond.methodLink RX8 217 yX8_toldSet ∈ lw_tbl := List.mem_of_getElem? (i := 861) rfl
set_option maxRecDepth 100000 in
theorem rk_8_220 : Cond.methodLink RX8 220 yX8_go ∈ lw_tbl := List.mem_of_getElem? (i := 865) rfl
set_option maxRecDepth 100000 in
theorem rk_8_233 : Cond.methodLink RX8 233 yX8_pure ∈ lw_tbl := List.mem_of_getElem? (i := 969) rfl
set_option maxRecDepth 100000 in
theorem rk_8_236 : Cond.methodLink RX8 236 yX8_costOf ∈ lw_tbl := List.mem_of_getElem? (i := 973) rfl
set_option maxRecDepth 100000 in
theorem rk_8_240 : Cond.methodLink RX8 240 yX8_bits ∈ lw_tbl := List.mem_of_getElem? (i := 981) rfl
set_option maxRecDepth 100000 in
theorem rk_9_9 : Cond.methodLink RL 9 yX7_init ∈ lw_tbl := List.mem_of_getElem? (i := 55) rfl
set_option maxRecDepth 100000 in
theorem rk_9_12 : Cond.methodLink RL 12 yX8_init ∈ lw_tbl := List.mem_of_getElem? (i := 660) rfl
set_option maxRecDepth 100000 in
theorem rk_9_13 : Cond.methodLink RL 13 yX7_routine ∈ lw_tbl := List.mem_of_getElem? (i := 312) rfl
set_option maxRecDepth 100000 in
theorem rk_9_17 : Cond.methodLink RL 17 yX8_routine ∈ lw_tbl := List.mem_of_getElem? (i := 807) rfl
set_option maxRecDepth 100000 in
theorem rk_9_18 : Cond.methodLink RL 18 yX7_code ∈ lw_tbl := List.mem_of_getElem? (i := 329) rfl
set_option maxRecDepth 100000 in
theorem rk_9_22 : Cond.methodLink RL 22 yX8_code ∈ lw_tbl := List.mem_of_getElem? (i := 811) rfl
set_option maxRecDepth 100000 in
theorem rk_9_23 : Cond.methodLink RL 23 yX7_codeAt ∈ lw_tbl := List.mem_of_getElem? (i := 375) rfl
set_option maxRecDepth 100000 in
theorem rk_9_26 : Cond.methodLink RL 26 yX8_codeAt ∈ lw_tbl := List.mem_of_getElem? (i := 833) rfl
set_option maxRecDepth 100000 in
theorem rk_9_27 : Cond.methodLink RL 27 yX7_store ∈ lw_tbl := List.mem_of_getElem? (i := 383) rfl
set_option maxRecDepth 100000 in
theorem rk_9_30 : Cond.methodLink RL 30 yX8_store ∈ lw_tbl := List.mem_of_getElem? (i := 837) rfl
set_option maxRecDepth 100000 in
theorem rk_9_31 : Cond.methodLink RL 31 yX7_held ∈ lw_tbl := List.mem_of_getElem? (i := 395) rfl
set_option maxRecDepth 100000 in
theorem rk_9_35 : Cond.methodLink RL 35 yX8_held ∈ lw_tbl := List.mem_of_getElem? (i := 841) rfl
set_option maxRecDepth 100000 in
theorem rk_9_36 : Cond.methodLink RL 36 yX7_lot ∈ lw_tbl := List.mem_of_getElem? (i := 399) rfl
set_option maxRecDepth 100000 in
theorem rk_9_39 : Cond.methodLink RL 39 yX8_lot ∈ lw_tbl := List.mem_of_getElem? (i := 845) rfl
set_option maxRecDepth 100000 in
theorem rk_9_40 : Cond.methodLink RL 40 yX7_acting ∈ lw_tbl := List.mem_of_getElem? (i := 403) rfl
set_option maxRecDepth 100000 in
theorem rk_9_43 : Cond.methodLink RL 43 yX8_acting ∈ lw_tbl := List.mem_of_getElem? (i := 849) rfl
set_option maxRecDepth 100000 in
theorem rk_9_44 : Cond.methodLink RL 44 yX7_reads ∈ lw_tbl := List.mem_of_getElem? (i := 411) rfl
set_option maxRecDepth 100000 in
theorem rk_9_47 : Cond.methodLink RL 47 yX8_reads ∈ lw_tbl := List.mem_of_getElem? (i := 853) rfl
set_option maxRecDepth 100000 in
theorem rk_9_48 : Cond.methodLink RL 48 yX7_run ∈ lw_tbl := List.mem_of_getElem? (i := 419) rfl
set_option maxRecDepth 100000 in
theorem rk_9_52 : Cond.methodLink RL 52 yX8_run ∈ lw_tbl := List.mem_of_getElem? (i := 857) rfl
set_option maxRecDepth 100000 in
theorem rk_9_53 : Cond.methodLink RL 53 yX7_answer ∈ lw_tbl := List.mem_of_getElem? (i := 563) rfl
set_option maxRecDepth 100000 in
theorem rk_9_56 : Cond.methodLink RL 56 yX8_answer ∈ lw_tbl := List.mem_of_getElem? (i := 933) rfl
set_option maxRecDepth 100000 in
theorem rk_9_57 : Cond.methodLink RL 57 yX7_ran ∈ lw_tbl := List.mem_of_getElem? (i := 567) rfl
set_option maxRecDepth 100000 in
theorem rk_9_60 : Cond.methodLink RL 60 yX8_ran ∈ lw_tbl := List.mem_of_getElem? (i := 937) rfl
set_option maxRecDepth 100000 in
theorem rk_9_61 : Cond.methodLink RL 61 yX7_keep ∈ lw_tbl := List.mem_of_getElem? (i := 571) rfl
set_option maxRecDepth 100000 in
theorem rk_9_65 : Cond.methodLink RL 65 yX8_keep ∈ lw_tbl := List.mem_of_getElem? (i := 941) rfl
set_option maxRecDepth 100000 in
theorem rk_9_66 : Cond.methodLink RL 66 yX7_room ∈ lw_tbl := List.mem_of_getElem? (i := 580) rfl
set_option maxRecDepth 100000 in
theorem rk_9_69 : Cond.methodLink RL 69 yX8_room ∈ lw_tbl := List.mem_of_getElem? (i := 945) rfl
set_option maxRecDepth 100000 in
theorem rk_9_70 : Cond.methodLink RL 70 yX7_forget ∈ lw_tbl := List.mem_of_getElem? (i := 594) rfl
set_option maxRecDepth 100000 in
theorem rk_9_73 : Cond.methodLink RL 73 yX8_forget ∈ lw_tbl := List.mem_of_getElem? (i := 949) rfl
set_option maxRecDepth 100000 in
theorem rk_9_74 : Cond.methodLink RL 74 yX7_kept ∈ lw_tbl := List.mem_of_getElem? (i := 598) rfl
set_option maxRecDepth 100000 in
theorem rk_9_77 : Cond.methodLink RL 77 yX8_kept ∈ lw_tbl := List.mem_of_getElem? (i := 953) rfl
set_option maxRecDepth 100000 in
theorem rk_9_78 : Cond.methodLink RL 78 yX7_log ∈ lw_tbl := List.mem_of_getElem? (i := 616) rfl
set_option maxRecDepth 100000 in
theorem rk_9_81 : Cond.methodLink RL 81 yX8_log ∈ lw_tbl := List.mem_of_getElem? (i := 957) rfl
set_option maxRecDepth 100000 in
theorem rk_9_82 : Cond.methodLink RL 82 yX7_clear ∈ lw_tbl := List.mem_of_getElem? (i := 624) rfl
set_option maxRecDepth 100000 in
theorem rk_9_85 : Cond.methodLink RL 85 yX8_clear ∈ lw_tbl := List.mem_of_getElem? (i := 961) rfl
set_option maxRecDepth 100000 in
theorem rk_9_86 : Cond.methodLink RL 86 yX7_cost ∈ lw_tbl := List.mem_of_getElem? (i := 628) rfl
set_option maxRecDepth 100000 in
theorem rk_9_89 : Cond.methodLink RL 89 yX8_cost ∈ lw_tbl := List.mem_of_getElem? (i := 965) rfl
set_option maxRecDepth 100000 in
theorem rk_9_90 : Cond.methodLink RL 90 yX7_best ∈ lw_tbl := List.mem_of_getElem? (i := 645) rfl
set_option maxRecDepth 100000 in
theorem rk_9_93 : Cond.methodLink RL 93 yX8_best ∈ lw_tbl := List.mem_of_getElem? (i := 977) rfl
set_option maxRecDepth 100000 in
theorem rk_9_94 : Cond.methodLink RL 94 yX7_told ∈ lw_tbl := List.mem_of_getElem? (i := 654) rfl
set_option maxRecDepth 100000 in
theorem rk_9_97 : Cond.methodLink RL 97 yX8_told ∈ lw_tbl := List.mem_of_getElem? (i := 984) rfl
def rk_mlp (c : Nat) (q : Nat × Nat × Nat × Nat) : Prop :=
  (q.2.2.2 = 3 ∧ Cond.methodLink (rk_cn c) q.1 objectInit ∈ lw_tbl) ∨ (q.2.2.2 = 5 ∧ Cond.methodLink (rk_cn c) q.1 Lib.Math.max.name ∈ lw_tbl) ∨
  ∃ M, rk_m q.2.1 = some M ∧ (parseMethodDescriptor M.1.desc).map (fun d => d.parameters.length) = some q.2.2.1 ∧
    ((q.2.2.2 = 4 ∧ Cond.methodLinkNest (rk_cn c) q.1 M.1 RX7 ∈ lw_tbl ∧ Cond.static M.1 ∈ lw_tbl) ∨ (q.2.2.2 = 0 ∧ Cond.methodLink (rk_cn c) q.1 M.1 ∈ lw_tbl ∧ Cond.static M.1 ∈ lw_tbl) ∨
     (q.2.2.2 = 1 ∧ Cond.methodLink (rk_cn c) q.1 M.1 ∈ lw_tbl ∧ Cond.instanceMethod M.1 ∈ lw_tbl ∧ Cond.selects M.1.cls M.1 M.1 ∈ lw_tbl ∧ M.2.2.2.2.1 < 9) ∨ (q.2.2.2 = 2 ∧ Cond.methodLink (rk_cn c) q.1 M.1 ∈ lw_tbl ∧ Cond.instanceMethod M.1 ∈ lw_tbl ∧ M.1.name = "<init>" ∧ M.2.2.2.1 = none))
theorem rk_mlp_0 : ∀ q ∈ rk_ml 0, rk_mlp 0 q := List.forall_mem_cons.mpr ⟨Or.inl ⟨rfl, rk_0_3⟩, fun _ h => absurd h List.not_mem_nil⟩
theorem rk_mlp_1 : ∀ q ∈ rk_ml 1, rk_mlp 1 q := List.forall_mem_cons.mpr ⟨Or.inl ⟨rfl, rk_1_3⟩, List.forall_mem_cons.mpr ⟨Or.inr (Or.inr ⟨rm_X7_isSet, rfl, rp_X7_isSet, Or.inl ⟨rfl, rk_1_49, rs_X7_isSet⟩⟩), List.forall_mem_cons.mpr ⟨Or.inr (Or.inr ⟨rm_X0_numberOf, rfl, rp_X0_numberOf, Or.inr (Or.inr (Or.inl ⟨rfl, rk_1_53, ri_X0_numberOf, rl_X0_numberOf, Nat.le_of_ble_eq_true rfl⟩))⟩), List.forall_mem_cons.mpr ⟨Or.inr (Or.inr ⟨rm_X6_valueOf, rfl, rp_X6_valueOf, Or.inr (Or.inr (Or.inl ⟨rfl, rk_1_57, ri_X6_valueOf, rl_X6_valueOf, Nat.le_of_ble_eq_true rfl⟩))⟩), List.forall_mem_cons.mpr ⟨Or.inr (Or.inr ⟨rm_X1_numbersAreAlike, rfl, rp_X1_numbersAreAlike, Or.inr (Or.inr (Or.inl ⟨rfl, rk_1_62, ri_X1_numbersAreAlike, rl_X1_numbersAreAlike, Nat.le_of_ble_eq_true rfl⟩))⟩), List.forall_mem_cons.mpr ⟨Or.inr (Or.inr ⟨rm_X1_storesAreAlike, rfl, rp_X1_storesAreAlike, Or.inr (Or.inr (Or.inl ⟨rfl, rk_1_66, ri_X1_storesAreAlike, rl_X1_storesAreAlike, Nat.le_of_ble_eq_true rfl⟩))⟩), fun _ h => absurd h List.not_mem_nil⟩⟩⟩⟩⟩⟩
theorem rk_mlp_2 : ∀ q ∈ rk_ml 2, rk_mlp 2 q := List.forall_mem_cons.mpr ⟨Or.inl ⟨rfl, rk_2_3⟩, List.forall_mem_cons.mpr ⟨Or.inr (Or.inr ⟨rm_X0_init, rfl, rp_X0_init, Or.inr (Or.inr (Or.inr ⟨rfl, rk_2_29, ri_X0_init, rfl, rfl⟩))⟩), List.forall_mem_cons.mpr ⟨Or.inr (Or.inr ⟨rm_X0_begin, rfl, rp_X0_begin, Or.inr (Or.inr (Or.inl ⟨rfl, rk_2_46, ri_X0_begin, rl_X0_begin, Nat.le_of_ble_eq_true rfl⟩))⟩), List.forall_mem_cons.mpr ⟨Or.inr (Or.inr ⟨rm_X2_enter, rfl, rp_X2_enter, Or.inr (Or.inr (Or.inl ⟨rfl, rk_2_50, ri_X2_enter, rl_X2_enter, Nat.le_of_ble_eq_true rfl⟩))⟩), List.forall_mem_cons.mpr ⟨Or.inr (Or.inr ⟨rm_X7_isSet, rfl, rp_X7_isSet, Or.inl ⟨rfl, rk_2_67, rs_X7_isSet⟩⟩), List.forall_mem_cons.mpr ⟨Or.inr (Or.inr ⟨rm_X2_walk, rfl, rp_X2_walk, Or.inr (Or.inr (Or.inl ⟨rfl, rk_2_71, ri_X2_walk, rl_X2_walk, Nat.le_of_ble_eq_true rfl⟩))⟩), List.forall_mem_cons.mpr ⟨Or.inr (Or.inr ⟨rm_X5_firstThatHolds, rfl, rp_X5_firstThatHolds, Or.inr (Or.inr (Or.inl ⟨rfl, rk_2_74, ri_X5_firstThatHolds, rl_X5_firstThatHolds, Nat.le_of_ble_eq_true rfl⟩))⟩), List.forall_mem_cons.mpr ⟨Or.inr (Or.inr ⟨rm_X5_has, rfl, rp_X5_has, Or.inr (Or.inr (Or.inl ⟨rfl, rk_2_80, ri_X5_has, rl_X5_has, Nat.le_of_ble_eq_true rfl⟩))⟩), List.forall_mem_cons.mpr ⟨Or.inr (Or.inr ⟨rm_X5_at, rfl, rp_X5_at, Or.inr (Or.inr (Or.inl ⟨rfl, rk_2_84, ri_X5_at, rl_X5_at, Nat.le_of_ble_eq_true rfl⟩))⟩), List.forall_mem_cons.mpr ⟨Or.inr (Or.inr ⟨rm_X2_fits, rfl, rp_X2_fits, Or.inr (Or.inr (Or.inl ⟨rfl, rk_2_88, ri_X2_fits, rl_X2_fits, Nat.le_of_ble_eq_true rfl⟩))⟩), List.forall_mem_cons.mpr ⟨Or.inr (Or.inr ⟨rm_X2_recall, rfl, rp_X2_recall, Or.inr (Or.inr (Or.inl ⟨rfl, rk_2_92, ri_X2_recall, rl_X2_recall, Nat.le_of_ble_eq_true rfl⟩))⟩), List.forall_mem_cons.mpr ⟨Or.inr (Or.inr ⟨rm_X5_add, rfl, rp_X5_add, Or.inr (Or.inr (Or.inl ⟨rfl, rk_2_96, ri_X5_add, rl_X5_add, Nat.le_of_ble_eq_true rfl⟩))⟩), List.forall_mem_cons.mpr ⟨Or.inr (Or.inr ⟨rm_X5_touch, rfl, rp_X5_touch, Or.inr (Or.inr (Or.inl ⟨rfl, rk_2_105, ri_X5_touch, rl_X5_touch, Nat.le_of_ble_eq_true rfl⟩))⟩), List.forall_mem_cons.mpr ⟨Or.inr (Or.inr ⟨rm_X3_lengthOf, rfl, rp_X3_lengthOf, Or.inr (Or.inr (Or.inl ⟨rfl, rk_2_115, ri_X3_lengthOf, rl_X3_lengthOf, Nat.le_of_ble_eq_true rfl⟩))⟩), List.forall_mem_cons.mpr ⟨Or.inr (Or.inr ⟨rm_X3_codeOf, rfl, rp_X3_codeOf, Or.inr (Or.inr (Or.inl ⟨rfl, rk_2_121, ri_X3_codeOf, rl_X3_codeOf, Nat.le_of_ble_eq_true rfl⟩))⟩), List.forall_mem_cons.mpr ⟨Or.inr (Or.inr ⟨rm_X2_perform, rfl, rp_X2_perform, Or.inr (Or.inr (Or.inl ⟨rfl, rk_2_125, ri_X2_perform, rl_X2_perform, Nat.le_of_ble_eq_true rfl⟩))⟩), List.forall_mem_cons.mpr ⟨Or.inr (Or.inr ⟨rm_X0_take, rfl, rp_X0_take, Or.inr (Or.inr (Or.inl ⟨rfl, rk_2_131, ri_X0_take, rl_X0_take, Nat.le_of_ble_eq_true rfl⟩))⟩), List.forall_mem_cons.mpr ⟨Or.inr (Or.inr ⟨rm_X0_last, rfl, rp_X0_last, Or.inr (Or.inr (Or.inl ⟨rfl, rk_2_135, ri_X0_last, rl_X0_last, Nat.le_of_ble_eq_true rfl⟩))⟩), List.forall_mem_cons.mpr ⟨Or.inr (Or.inr ⟨rm_X0_put, rfl, rp_X0_put, Or.inr (Or.inr (Or.inl ⟨rfl, rk_2_138, ri_X0_put, rl_X0_put, Nat.le_of_ble_eq_true rfl⟩))⟩), List.forall_mem_cons.mpr ⟨Or.inr (Or.inr ⟨rm_X2_readNumber, rfl, rp_X2_readNumber, Or.inr (Or.inr (Or.inl ⟨rfl, rk_2_141, ri_X2_readNumber, rl_X2_readNumber, Nat.le_of_ble_eq_true rfl⟩))⟩), List.forall_mem_cons.mpr ⟨Or.inr (Or.inr ⟨rm_X2_readStore, rfl, rp_X2_readStore, Or.inr (Or.inr (Or.inl ⟨rfl, rk_2_145, ri_X2_readStore, rl_X2_readStore, Nat.le_of_ble_eq_true rfl⟩))⟩), List.forall_mem_cons.mpr ⟨Or.inr (Or.inr ⟨rm_X2_writeStore, rfl, rp_X2_writeStore, Or.inr (Or.inr (Or.inl ⟨rfl, rk_2_148, ri_X2_writeStore, rl_X2_writeStore, Nat.le_of_ble_eq_true rfl⟩))⟩), List.forall_mem_cons.mpr ⟨Or.inr (Or.inr ⟨rm_X2_callRoutine, rfl, rp_X2_callRoutine, Or.inr (Or.inr (Or.inl ⟨rfl, rk_2_151, ri_X2_callRoutine, rl_X2_callRoutine, Nat.le_of_ble_eq_true rfl⟩))⟩), List.forall_mem_cons.mpr ⟨Or.inr (Or.inr ⟨rm_X2_combine, rfl, rp_X2_combine, Or.inr (Or.inr (Or.inl ⟨rfl, rk_2_154, ri_X2_combine, rl_X2_combine, Nat.le_of_ble_eq_true rfl⟩))⟩), List.forall_mem_cons.mpr ⟨Or.inr (Or.inr ⟨rm_X2_changeEnd, rfl, rp_X2_changeEnd, Or.inr (Or.inr (Or.inl ⟨rfl, rk_2_157, ri_X2_changeEnd, rl_X2_changeEnd, Nat.le_of_ble_eq_true rfl⟩))⟩), List.forall_mem_cons.mpr ⟨Or.inr (Or.inr ⟨rm_X0_isFull, rfl, rp_X0_isFull, Or.inr (Or.inr (Or.inl ⟨rfl, rk_2_160, ri_X0_isFull, rl_X0_isFull, Nat.le_of_ble_eq_true rfl⟩))⟩), List.forall_mem_cons.mpr ⟨Or.inr (Or.inr ⟨rm_X0_numberOf, rfl, rp_X0_numberOf, Or.inr (Or.inr (Or.inl ⟨rfl, rk_2_167, ri_X0_numberOf, rl_X0_numberOf, Nat.le_of_ble_eq_true rfl⟩))⟩), List.forall_mem_cons.mpr ⟨Or.inr (Or.inr ⟨rm_X6_valueOf, rfl, rp_X6_valueOf, Or.inr (Or.inr (Or.inl ⟨rfl, rk_2_170, ri_X6_valueOf, rl_X6_valueOf, Nat.le_of_ble_eq_true rfl⟩))⟩), List.forall_mem_cons.mpr ⟨Or.inr (Or.inr ⟨rm_X6_setValue, rfl, rp_X6_setValue, Or.inr (Or.inr (Or.inl ⟨rfl, rk_2_175, ri_X6_setValue, rl_X6_setValue, Nat.le_of_ble_eq_true rfl⟩))⟩), List.forall_mem_cons.mpr ⟨Or.inr (Or.inr ⟨rm_X3_hasRoutine, rfl, rp_X3_hasRoutine, Or.inr (Or.inr (Or.inl ⟨rfl, rk_2_179, ri_X3_hasRoutine, rl_X3_hasRoutine, Nat.le_of_ble_eq_true rfl⟩))⟩), List.forall_mem_cons.mpr ⟨Or.inr (Or.inr ⟨rm_X0_joinCalled, rfl, rp_X0_joinCalled, Or.inr (Or.inr (Or.inl ⟨rfl, rk_2_182, ri_X0_joinCalled, rl_X0_joinCalled, Nat.le_of_ble_eq_true rfl⟩))⟩), List.forall_mem_cons.mpr ⟨Or.inr (Or.inr ⟨rm_X6_nextLot, rfl, rp_X6_nextLot, Or.inr (Or.inr (Or.inl ⟨rfl, rk_2_186, ri_X6_nextLot, rl_X6_nextLot, Nat.le_of_ble_eq_true rfl⟩))⟩), fun _ h => absurd h List.not_mem_nil⟩⟩⟩⟩⟩⟩⟩⟩⟩⟩⟩⟩⟩⟩⟩⟩⟩⟩⟩⟩⟩⟩⟩⟩⟩⟩⟩⟩⟩⟩⟩⟩
theorem rk_mlp_3 : ∀ q ∈ rk_ml 3, rk_mlp 3 q := List.forall_mem_cons.mpr ⟨Or.inl ⟨rfl, rk_3_3⟩, List.forall_mem_cons.mpr ⟨Or.inr (Or.inr ⟨rm_X3_hasRoutine, rfl, rp_X3_hasRoutine, Or.inr (Or.inr (Or.inl ⟨rfl, rk_3_33, ri_X3_hasRoutine, rl_X3_hasRoutine, Nat.le_of_ble_eq_true rfl⟩))⟩), List.forall_mem_cons.mpr ⟨Or.inr (Or.inr ⟨rm_X3_lengthOf, rfl, rp_X3_lengthOf, Or.inr (Or.inr (Or.inl ⟨rfl, rk_3_37, ri_X3_lengthOf, rl_X3_lengthOf, Nat.le_of_ble_eq_true rfl⟩))⟩), List.forall_mem_cons.mpr ⟨Or.inr (Or.inr ⟨rm_X3_isFull, rfl, rp_X3_isFull, Or.inr (Or.inr (Or.inl ⟨rfl, rk_3_41, ri_X3_isFull, rl_X3_isFull, Nat.le_of_ble_eq_true rfl⟩))⟩), List.forall_mem_cons.mpr ⟨Or.inr (Or.inr ⟨rm_X3_spreadToCallers, rfl, rp_X3_spreadToCallers, Or.inr (Or.inr (Or.inl ⟨rfl, rk_3_45, ri_X3_spreadToCallers, rl_X3_spreadToCallers, Nat.le_of_ble_eq_true rfl⟩))⟩), List.forall_mem_cons.mpr ⟨Or.inr (Or.inr ⟨rm_X3_gatherFromCalled, rfl, rp_X3_gatherFromCalled, Or.inr (Or.inr (Or.inl ⟨rfl, rk_3_48, ri_X3_gatherFromCalled, rl_X3_gatherFromCalled, Nat.le_of_ble_eq_true rfl⟩))⟩), List.forall_mem_cons.mpr ⟨Or.inr (Or.inr ⟨rm_X7_isSet, rfl, rp_X7_isSet, Or.inl ⟨rfl, rk_3_52, rs_X7_isSet⟩⟩), List.forall_mem_cons.mpr ⟨Or.inr (Or.inr ⟨rm_X3_firstKeepable, rfl, rp_X3_firstKeepable, Or.inr (Or.inr (Or.inl ⟨rfl, rk_3_56, ri_X3_firstKeepable, rl_X3_firstKeepable, Nat.le_of_ble_eq_true rfl⟩))⟩), List.forall_mem_cons.mpr ⟨Or.inr (Or.inr ⟨rm_J6_bitCount_0f7a4, rfl, rp_J6_bitCount_0f7a4, Or.inr (Or.inl ⟨rfl, rk_3_59, rs_J6_bitCount_0f7a4⟩)⟩), fun _ h => absurd h List.not_mem_nil⟩⟩⟩⟩⟩⟩⟩⟩⟩
theorem rk_mlp_4 : ∀ q ∈ rk_ml 4, rk_mlp 4 q := List.forall_mem_cons.mpr ⟨Or.inl ⟨rfl, rk_4_3⟩, fun _ h => absurd h List.not_mem_nil⟩
theorem rk_mlp_5 : ∀ q ∈ rk_ml 5, rk_mlp 5 q := List.forall_mem_cons.mpr ⟨Or.inl ⟨rfl, rk_5_3⟩, List.forall_mem_cons.mpr ⟨Or.inr (Or.inr ⟨rm_X1_init, rfl, rp_X1_init, Or.inr (Or.inr (Or.inr ⟨rfl, rk_5_17, ri_X1_init, rfl, rfl⟩))⟩), List.forall_mem_cons.mpr ⟨Or.inr (Or.inr ⟨rm_X5_has, rfl, rp_X5_has, Or.inr (Or.inr (Or.inl ⟨rfl, rk_5_31, ri_X5_has, rl_X5_has, Nat.le_of_ble_eq_true rfl⟩))⟩), List.forall_mem_cons.mpr ⟨Or.inr (Or.inr ⟨rm_X1_holdsFor, rfl, rp_X1_holdsFor, Or.inr (Or.inr (Or.inl ⟨rfl, rk_5_35, ri_X1_holdsFor, rl_X1_holdsFor, Nat.le_of_ble_eq_true rfl⟩))⟩), List.forall_mem_cons.mpr ⟨Or.inr (Or.inr ⟨rm_X5_nextToGo, rfl, rp_X5_nextToGo, Or.inr (Or.inr (Or.inl ⟨rfl, rk_5_42, ri_X5_nextToGo, rl_X5_nextToGo, Nat.le_of_ble_eq_true rfl⟩))⟩), List.forall_mem_cons.mpr ⟨Or.inr (Or.inr ⟨rm_X5_drop, rfl, rp_X5_drop, Or.inr (Or.inr (Or.inl ⟨rfl, rk_5_46, ri_X5_drop, rl_X5_drop, Nat.le_of_ble_eq_true rfl⟩))⟩), List.forall_mem_cons.mpr ⟨Or.inr (Or.inr ⟨rm_X1_fill, rfl, rp_X1_fill, Or.inr (Or.inr (Or.inl ⟨rfl, rk_5_50, ri_X1_fill, rl_X1_fill, Nat.le_of_ble_eq_true rfl⟩))⟩), List.forall_mem_cons.mpr ⟨Or.inr (Or.inr ⟨rm_X5_touch, rfl, rp_X5_touch, Or.inr (Or.inr (Or.inl ⟨rfl, rk_5_54, ri_X5_touch, rl_X5_touch, Nat.le_of_ble_eq_true rfl⟩))⟩), List.forall_mem_cons.mpr ⟨Or.inr (Or.inr ⟨rm_X5_goesAheadOf, rfl, rp_X5_goesAheadOf, Or.inr (Or.inr (Or.inl ⟨rfl, rk_5_58, ri_X5_goesAheadOf, rl_X5_goesAheadOf, Nat.le_of_ble_eq_true rfl⟩))⟩), List.forall_mem_cons.mpr ⟨Or.inr (Or.inl ⟨rfl, rk_5_68⟩), fun _ h => absurd h List.not_mem_nil⟩⟩⟩⟩⟩⟩⟩⟩⟩⟩
theorem rk_mlp_6 : ∀ q ∈ rk_ml 6, rk_mlp 6 q := List.forall_mem_cons.mpr ⟨Or.inl ⟨rfl, rk_6_3⟩, fun _ h => absurd h List.not_mem_nil⟩
theorem rk_mlp_7 : ∀ q ∈ rk_ml 7, rk_mlp 7 q := List.forall_mem_cons.mpr ⟨Or.inl ⟨rfl, rk_7_3⟩, List.forall_mem_cons.mpr ⟨Or.inr (Or.inr ⟨rm_X3_init, rfl, rp_X3_init, Or.inr (Or.inr (Or.inr ⟨rfl, rk_7_11, ri_X3_init, rfl, rfl⟩))⟩), List.forall_mem_cons.mpr ⟨Or.inr (Or.inr ⟨rm_X6_init, rfl, rp_X6_init, Or.inr (Or.inr (Or.inr ⟨rfl, rk_7_18, ri_X6_init, rfl, rfl⟩))⟩), List.forall_mem_cons.mpr ⟨Or.inr (Or.inr ⟨rm_X5_init, rfl, rp_X5_init, Or.inr (Or.inr (Or.inr ⟨rfl, rk_7_25, ri_X5_init, rfl, rfl⟩))⟩), List.forall_mem_cons.mpr ⟨Or.inr (Or.inr ⟨rm_X2_init, rfl, rp_X2_init, Or.inr (Or.inr (Or.inr ⟨rfl, rk_7_32, ri_X2_init, rfl, rfl⟩))⟩), List.forall_mem_cons.mpr ⟨Or.inr (Or.inr ⟨rm_X4_init, rfl, rp_X4_init, Or.inr (Or.inr (Or.inr ⟨rfl, rk_7_50, ri_X4_init, rfl, rfl⟩))⟩), List.forall_mem_cons.mpr ⟨Or.inr (Or.inr ⟨rm_X3_isFull, rfl, rp_X3_isFull, Or.inr (Or.inr (Or.inl ⟨rfl, rk_7_63, ri_X3_isFull, rl_X3_isFull, Nat.le_of_ble_eq_true rfl⟩))⟩), List.forall_mem_cons.mpr ⟨Or.inr (Or.inr ⟨rm_X5_dropAll, rfl, rp_X5_dropAll, Or.inr (Or.inr (Or.inl ⟨rfl, rk_7_67, ri_X5_dropAll, rl_X5_dropAll, Nat.le_of_ble_eq_true rfl⟩))⟩), List.forall_mem_cons.mpr ⟨Or.inr (Or.inr ⟨rm_X3_addRoutine, rfl, rp_X3_addRoutine, Or.inr (Or.inr (Or.inl ⟨rfl, rk_7_71, ri_X3_addRoutine, rl_X3_addRoutine, Nat.le_of_ble_eq_true rfl⟩))⟩), List.forall_mem_cons.mpr ⟨Or.inr (Or.inr ⟨rm_X3_hasRoutine, rfl, rp_X3_hasRoutine, Or.inr (Or.inr (Or.inl ⟨rfl, rk_7_74, ri_X3_hasRoutine, rl_X3_hasRoutine, Nat.le_of_ble_eq_true rfl⟩))⟩), List.forall_mem_cons.mpr ⟨Or.inr (Or.inr ⟨rm_X7_isCode, rfl, rp_X7_isCode, Or.inr (Or.inl ⟨rfl, rk_7_78, rs_X7_isCode⟩)⟩), List.forall_mem_cons.mpr ⟨Or.inr (Or.inr ⟨rm_X3_lengthOf, rfl, rp_X3_lengthOf, Or.inr (Or.inr (Or.inl ⟨rfl, rk_7_81, ri_X3_lengthOf, rl_X3_lengthOf, Nat.le_of_ble_eq_true rfl⟩))⟩), List.forall_mem_cons.mpr ⟨Or.inr (Or.inr ⟨rm_X3_addCode, rfl, rp_X3_addCode, Or.inr (Or.inr (Or.inl ⟨rfl, rk_7_85, ri_X3_addCode, rl_X3_addCode, Nat.le_of_ble_eq_true rfl⟩))⟩), List.forall_mem_cons.mpr ⟨Or.inr (Or.inr ⟨rm_X3_keepable, rfl, rp_X3_keepable, Or.inr (Or.inr (Or.inl ⟨rfl, rk_7_89, ri_X3_keepable, rl_X3_keepable, Nat.le_of_ble_eq_true rfl⟩))⟩), List.forall_mem_cons.mpr ⟨Or.inr (Or.inr ⟨rm_X3_codeOf, rfl, rp_X3_codeOf, Or.inr (Or.inr (Or.inl ⟨rfl, rk_7_92, ri_X3_codeOf, rl_X3_codeOf, Nat.le_of_ble_eq_true rfl⟩))⟩), List.forall_mem_cons.mpr ⟨Or.inr (Or.inr ⟨rm_X6_valueOf, rfl, rp_X6_valueOf, Or.inr (Or.inr (Or.inl ⟨rfl, rk_7_96, ri_X6_valueOf, rl_X6_valueOf, Nat.le_of_ble_eq_true rfl⟩))⟩), List.forall_mem_cons.mpr ⟨Or.inr (Or.inr ⟨rm_X6_setValue, rfl, rp_X6_setValue, Or.inr (Or.inr (Or.inl ⟨rfl, rk_7_99, ri_X6_setValue, rl_X6_setValue, Nat.le_of_ble_eq_true rfl⟩))⟩), List.forall_mem_cons.mpr ⟨Or.inr (Or.inr ⟨rm_X3_actingOf, rfl, rp_X3_actingOf, Or.inr (Or.inr (Or.inl ⟨rfl, rk_7_105, ri_X3_actingOf, rl_X3_actingOf, Nat.le_of_ble_eq_true rfl⟩))⟩), List.forall_mem_cons.mpr ⟨Or.inr (Or.inr ⟨rm_X3_readingOf, rfl, rp_X3_readingOf, Or.inr (Or.inr (Or.inl ⟨rfl, rk_7_108, ri_X3_readingOf, rl_X3_readingOf, Nat.le_of_ble_eq_true rfl⟩))⟩), List.forall_mem_cons.mpr ⟨Or.inr (Or.inr ⟨rm_X2_start, rfl, rp_X2_start, Or.inr (Or.inr (Or.inl ⟨rfl, rk_7_111, ri_X2_start, rl_X2_start, Nat.le_of_ble_eq_true rfl⟩))⟩), List.forall_mem_cons.mpr ⟨Or.inr (Or.inr ⟨rm_X7_isSet, rfl, rp_X7_isSet, Or.inr (Or.inl ⟨rfl, rk_7_136, rs_X7_isSet⟩)⟩), List.forall_mem_cons.mpr ⟨Or.inr (Or.inr ⟨rm_X5_dropOf, rfl, rp_X5_dropOf, Or.inr (Or.inr (Or.inl ⟨rfl, rk_7_140, ri_X5_dropOf, rl_X5_dropOf, Nat.le_of_ble_eq_true rfl⟩))⟩), List.forall_mem_cons.mpr ⟨Or.inr (Or.inr ⟨rm_X7_isRoom, rfl, rp_X7_isRoom, Or.inr (Or.inl ⟨rfl, rk_7_144, rs_X7_isRoom⟩)⟩), List.forall_mem_cons.mpr ⟨Or.inr (Or.inr ⟨rm_X5_furnish, rfl, rp_X5_furnish, Or.inr (Or.inr (Or.inl ⟨rfl, rk_7_147, ri_X5_furnish, rl_X5_furnish, Nat.le_of_ble_eq_true rfl⟩))⟩), List.forall_mem_cons.mpr ⟨Or.inr (Or.inr ⟨rm_X5_has, rfl, rp_X5_has, Or.inr (Or.inr (Or.inl ⟨rfl, rk_7_150, ri_X5_has, rl_X5_has, Nat.le_of_ble_eq_true rfl⟩))⟩), List.forall_mem_cons.mpr ⟨Or.inr (Or.inr ⟨rm_X5_at, rfl, rp_X5_at, Or.inr (Or.inr (Or.inl ⟨rfl, rk_7_153, ri_X5_at, rl_X5_at, Nat.le_of_ble_eq_true rfl⟩))⟩), List.forall_mem_cons.mpr ⟨Or.inr (Or.inr ⟨rm_X1_fact, rfl, rp_X1_fact, Or.inr (Or.inr (Or.inl ⟨rfl, rk_7_157, ri_X1_fact, rl_X1_fact, Nat.le_of_ble_eq_true rfl⟩))⟩), List.forall_mem_cons.mpr ⟨Or.inr (Or.inr ⟨rm_X1_numberWas, rfl, rp_X1_numberWas, Or.inr (Or.inr (Or.inl ⟨rfl, rk_7_163, ri_X1_numberWas, rl_X1_numberWas, Nat.le_of_ble_eq_true rfl⟩))⟩), List.forall_mem_cons.mpr ⟨Or.inr (Or.inr ⟨rm_X1_storeWas, rfl, rp_X1_storeWas, Or.inr (Or.inr (Or.inl ⟨rfl, rk_7_166, ri_X1_storeWas, rl_X1_storeWas, Nat.le_of_ble_eq_true rfl⟩))⟩), List.forall_mem_cons.mpr ⟨Or.inr (Or.inr ⟨rm_X4_add, rfl, rp_X4_add, Or.inr (Or.inr (Or.inl ⟨rfl, rk_7_169, ri_X4_add, rl_X4_add, Nat.le_of_ble_eq_true rfl⟩))⟩), List.forall_mem_cons.mpr ⟨Or.inr (Or.inr ⟨rm_X7_tryOut, rfl, rp_X7_tryOut, Or.inr (Or.inr (Or.inl ⟨rfl, rk_7_177, ri_X7_tryOut, rl_X7_tryOut, Nat.le_of_ble_eq_true rfl⟩))⟩), List.forall_mem_cons.mpr ⟨Or.inr (Or.inr ⟨rm_X3_firstKeepable, rfl, rp_X3_firstKeepable, Or.inr (Or.inr (Or.inl ⟨rfl, rk_7_181, ri_X3_firstKeepable, rl_X3_firstKeepable, Nat.le_of_ble_eq_true rfl⟩))⟩), List.forall_mem_cons.mpr ⟨Or.inr (Or.inr ⟨rm_J6_bitCount_0f7a4, rfl, rp_J6_bitCount_0f7a4, Or.inr (Or.inl ⟨rfl, rk_7_184, rs_J6_bitCount_0f7a4⟩)⟩), List.forall_mem_cons.mpr ⟨Or.inr (Or.inr ⟨rm_X7_pick, rfl, rp_X7_pick, Or.inr (Or.inl ⟨rfl, rk_7_189, rs_X7_pick⟩)⟩), List.forall_mem_cons.mpr ⟨Or.inr (Or.inr ⟨rm_X6_copyFrom, rfl, rp_X6_copyFrom, Or.inr (Or.inr (Or.inl ⟨rfl, rk_7_202, ri_X6_copyFrom, rl_X6_copyFrom, Nat.le_of_ble_eq_true rfl⟩))⟩), List.forall_mem_cons.mpr ⟨Or.inr (Or.inr ⟨rm_X4_fact, rfl, rp_X4_fact, Or.inr (Or.inr (Or.inl ⟨rfl, rk_7_206, ri_X4_fact, rl_X4_fact, Nat.le_of_ble_eq_true rfl⟩))⟩), fun _ h => absurd h List.not_mem_nil⟩⟩⟩⟩⟩⟩⟩⟩⟩⟩⟩⟩⟩⟩⟩⟩⟩⟩⟩⟩⟩⟩⟩⟩⟩⟩⟩⟩⟩⟩⟩⟩⟩⟩⟩⟩
theorem rk_mlp_8 : ∀ q ∈ rk_ml 8, rk_mlp 8 q := List.forall_mem_cons.mpr ⟨Or.inl ⟨rfl, rk_8_1⟩, List.forall_mem_cons.mpr ⟨Or.inr (Or.inr ⟨rm_X8_in, rfl, rp_X8_in, Or.inr (Or.inl ⟨rfl, rk_8_102, rs_X8_in⟩)⟩), List.forall_mem_cons.mpr ⟨Or.inr (Or.inr ⟨rm_X8_isRoutine, rfl, rp_X8_isRoutine, Or.inr (Or.inr (Or.inl ⟨rfl, rk_8_106, ri_X8_isRoutine, rl_X8_isRoutine, Nat.le_of_ble_eq_true rfl⟩))⟩), List.forall_mem_cons.mpr ⟨Or.inr (Or.inr ⟨rm_X8_isCode, rfl, rp_X8_isCode, Or.inr (Or.inl ⟨rfl, rk_8_110, rs_X8_isCode⟩)⟩), List.forall_mem_cons.mpr ⟨Or.inr (Or.inr ⟨rm_X8_actingOf, rfl, rp_X8_actingOf, Or.inr (Or.inr (Or.inl ⟨rfl, rk_8_113, ri_X8_actingOf, rl_X8_actingOf, Nat.le_of_ble_eq_true rfl⟩))⟩), List.forall_mem_cons.mpr ⟨Or.inr (Or.inr ⟨rm_X8_called, rfl, rp_X8_called, Or.inr (Or.inr (Or.inl ⟨rfl, rk_8_117, ri_X8_called, rl_X8_called, Nat.le_of_ble_eq_true rfl⟩))⟩), List.forall_mem_cons.mpr ⟨Or.inr (Or.inr ⟨rm_X8_areStores, rfl, rp_X8_areStores, Or.inr (Or.inr (Or.inl ⟨rfl, rk_8_123, ri_X8_areStores, rl_X8_areStores, Nat.le_of_ble_eq_true rfl⟩))⟩), List.forall_mem_cons.mpr ⟨Or.inr (Or.inr ⟨rm_X8_copy, rfl, rp_X8_copy, Or.inr (Or.inr (Or.inl ⟨rfl, rk_8_126, ri_X8_copy, rl_X8_copy, Nat.le_of_ble_eq_true rfl⟩))⟩), List.forall_mem_cons.mpr ⟨Or.inr (Or.inr ⟨rm_X8_goes, rfl, rp_X8_goes, Or.inr (Or.inr (Or.inl ⟨rfl, rk_8_136, ri_X8_goes, rl_X8_goes, Nat.le_of_ble_eq_true rfl⟩))⟩), List.forall_mem_cons.mpr ⟨Or.inr (Or.inr ⟨rm_X8_letGo, rfl, rp_X8_letGo, Or.inr (Or.inr (Or.inl ⟨rfl, rk_8_140, ri_X8_letGo, rl_X8_letGo, Nat.le_of_ble_eq_true rfl⟩))⟩), List.forall_mem_cons.mpr ⟨Or.inr (Or.inr ⟨rm_X8_find, rfl, rp_X8_find, Or.inr (Or.inr (Or.inl ⟨rfl, rk_8_165, ri_X8_find, rl_X8_find, Nat.le_of_ble_eq_true rfl⟩))⟩), List.forall_mem_cons.mpr ⟨Or.inr (Or.inr ⟨rm_X8_around, rfl, rp_X8_around, Or.inr (Or.inr (Or.inl ⟨rfl, rk_8_172, ri_X8_around, rl_X8_around, Nat.le_of_ble_eq_true rfl⟩))⟩), List.forall_mem_cons.mpr ⟨Or.inr (Or.inr ⟨rm_X8_comes, rfl, rp_X8_comes, Or.inr (Or.inr (Or.inl ⟨rfl, rk_8_175, ri_X8_comes, rl_X8_comes, Nat.le_of_ble_eq_true rfl⟩))⟩), List.forall_mem_cons.mpr ⟨Or.inr (Or.inr ⟨rm_X8_keepNow, rfl, rp_X8_keepNow, Or.inr (Or.inr (Or.inl ⟨rfl, rk_8_185, ri_X8_keepNow, rl_X8_keepNow, Nat.le_of_ble_eq_true rfl⟩))⟩), List.forall_mem_cons.mpr ⟨Or.inr (Or.inr ⟨rm_X8_refuse, rfl, rp_X8_refuse, Or.inr (Or.inr (Or.inl ⟨rfl, rk_8_188, ri_X8_refuse, rl_X8_refuse, Nat.le_of_ble_eq_true rfl⟩))⟩), List.forall_mem_cons.mpr ⟨Or.inr (Or.inr ⟨rm_X8_needs, rfl, rp_X8_needs, Or.inr (Or.inl ⟨rfl, rk_8_194, rs_X8_needs⟩)⟩), List.forall_mem_cons.mpr ⟨Or.inr (Or.inr ⟨rm_X8_put, rfl, rp_X8_put, Or.inr (Or.inr (Or.inl ⟨rfl, rk_8_197, ri_X8_put, rl_X8_put, Nat.le_of_ble_eq_true rfl⟩))⟩), List.forall_mem_cons.mpr ⟨Or.inr (Or.inr ⟨rm_X8_calls, rfl, rp_X8_calls, Or.inr (Or.inr (Or.inl ⟨rfl, rk_8_200, ri_X8_calls, rl_X8_calls, Nat.le_of_ble_eq_true rfl⟩))⟩), List.forall_mem_cons.mpr ⟨Or.inr (Or.inr ⟨rm_X8_acts, rfl, rp_X8_acts, Or.inr (Or.inr (Or.inl ⟨rfl, rk_8_203, ri_X8_acts, rl_X8_acts, Nat.le_of_ble_eq_true rfl⟩))⟩), List.forall_mem_cons.mpr ⟨Or.inr (Or.inr ⟨rm_X8_enter, rfl, rp_X8_enter, Or.inr (Or.inr (Or.inl ⟨rfl, rk_8_206, ri_X8_enter, rl_X8_enter, Nat.le_of_ble_eq_true rfl⟩))⟩), List.forall_mem_cons.mpr ⟨Or.inr (Or.inr ⟨rm_X8_leave, rfl, rp_X8_leave, Or.inr (Or.inr (Or.inl ⟨rfl, rk_8_211, ri_X8_leave, rl_X8_leave, Nat.le_of_ble_eq_true rfl⟩))⟩), List.forall_mem_cons.mpr ⟨Or.inr (Or.inr ⟨rm_X8_step, rfl, rp_X8_step, Or.inr (Or.inr (Or.inl ⟨rfl, rk_8_214, ri_X8_step, rl_X8_step, Nat.le_of_ble_eq_true rfl⟩))⟩), List.forall_mem_cons.mpr ⟨Or.inr (Or.inr ⟨rm_X8_toldSet, rfl, rp_X8_toldSet, Or.inr (Or.inr (Or.inl ⟨rfl, rk_8_217, ri_X8_toldSet, rl_X8_toldSet, Nat.le_of_ble_eq_true rfl⟩))⟩), List.forall_mem_cons.mpr ⟨Or.inr (Or.inr ⟨rm_X8_go, rfl, rp_X8_go, Or.inr (Or.inr (Or.inl ⟨rfl, rk_8_220, ri_X8_go, rl_X8_go, Nat.le_of_ble_eq_true rfl⟩))⟩), List.forall_mem_cons.mpr ⟨Or.inr (Or.inr ⟨rm_X8_pure, rfl, rp_X8_pure, Or.inr (Or.inr (Or.inl ⟨rfl, rk_8_233, ri_X8_pure, rl_X8_pure, Nat.le_of_ble_eq_true rfl⟩))⟩), List.forall_mem_cons.mpr ⟨Or.inr (Or.inr ⟨rm_X8_costOf, rfl, rp_X8_costOf, Or.inr (Or.inr (Or.inl ⟨rfl, rk_8_236, ri_X8_costOf, rl_X8_costOf, Nat.le_of_ble_eq_true rfl⟩))⟩), List.forall_mem_cons.mpr ⟨Or.inr (Or.inr ⟨rm_X8_bits, rfl, rp_X8_bits, Or.inr (Or.inl ⟨rfl, rk_8_240, rs_X8_bits⟩)⟩), fun _ h => absurd h List.not_mem_nil⟩⟩⟩⟩⟩⟩⟩⟩⟩⟩⟩⟩⟩⟩⟩⟩⟩⟩⟩⟩⟩⟩⟩⟩⟩⟩⟩
theorem rk_mlp_9 : ∀ q ∈ rk_ml 9, rk_mlp 9 q := List.forall_mem_cons.mpr ⟨Or.inr (Or.inr ⟨rm_X7_init, rfl, rp_X7_init, Or.inr (Or.inr (Or.inr ⟨rfl, rk_9_9, ri_X7_init, rfl, rfl⟩))⟩), List.forall_mem_cons.mpr ⟨Or.inr (Or.inr ⟨rm_X8_init, rfl, rp_X8_init, Or.inr (Or.inr (Or.inr ⟨rfl, rk_9_12, ri_X8_init, rfl, rfl⟩))⟩), List.forall_mem_cons.mpr ⟨Or.inr (Or.inr ⟨rm_X7_routine, rfl, rp_X7_routine, Or.inr (Or.inr (Or.inl ⟨rfl, rk_9_13, ri_X7_routine, rl_X7_routine, Nat.le_of_ble_eq_true rfl⟩))⟩), List.forall_mem_cons.mpr ⟨Or.inr (Or.inr ⟨rm_X8_routine, rfl, rp_X8_routine, Or.inr (Or.inr (Or.inl ⟨rfl, rk_9_17, ri_X8_routine, rl_X8_routine, Nat.le_of_ble_eq_true rfl⟩))⟩), List.forall_mem_cons.mpr ⟨Or.inr (Or.inr ⟨rm_X7_code, rfl, rp_X7_code, Or.inr (Or.inr (Or.inl ⟨rfl, rk_9_18, ri_X7_code, rl_X7_code, Nat.le_of_ble_eq_true rfl⟩))⟩), List.forall_mem_cons.mpr ⟨Or.inr (Or.inr ⟨rm_X8_code, rfl, rp_X8_code, Or.inr (Or.inr (Or.inl ⟨rfl, rk_9_22, ri_X8_code, rl_X8_code, Nat.le_of_ble_eq_true rfl⟩))⟩), List.forall_mem_cons.mpr ⟨Or.inr (Or.inr ⟨rm_X7_codeAt, rfl, rp_X7_codeAt, Or.inr (Or.inr (Or.inl ⟨rfl, rk_9_23, ri_X7_codeAt, rl_X7_codeAt, Nat.le_of_ble_eq_true rfl⟩))⟩), List.forall_mem_cons.mpr ⟨Or.inr (Or.inr ⟨rm_X8_codeAt, rfl, rp_X8_codeAt, Or.inr (Or.inr (Or.inl ⟨rfl, rk_9_26, ri_X8_codeAt, rl_X8_codeAt, Nat.le_of_ble_eq_true rfl⟩))⟩), List.forall_mem_cons.mpr ⟨Or.inr (Or.inr ⟨rm_X7_store, rfl, rp_X7_store, Or.inr (Or.inr (Or.inl ⟨rfl, rk_9_27, ri_X7_store, rl_X7_store, Nat.le_of_ble_eq_true rfl⟩))⟩), List.forall_mem_cons.mpr ⟨Or.inr (Or.inr ⟨rm_X8_store, rfl, rp_X8_store, Or.inr (Or.inr (Or.inl ⟨rfl, rk_9_30, ri_X8_store, rl_X8_store, Nat.le_of_ble_eq_true rfl⟩))⟩), List.forall_mem_cons.mpr ⟨Or.inr (Or.inr ⟨rm_X7_held, rfl, rp_X7_held, Or.inr (Or.inr (Or.inl ⟨rfl, rk_9_31, ri_X7_held, rl_X7_held, Nat.le_of_ble_eq_true rfl⟩))⟩), List.forall_mem_cons.mpr ⟨Or.inr (Or.inr ⟨rm_X8_held, rfl, rp_X8_held, Or.inr (Or.inr (Or.inl ⟨rfl, rk_9_35, ri_X8_held, rl_X8_held, Nat.le_of_ble_eq_true rfl⟩))⟩), List.forall_mem_cons.mpr ⟨Or.inr (Or.inr ⟨rm_X7_lot, rfl, rp_X7_lot, Or.inr (Or.inr (Or.inl ⟨rfl, rk_9_36, ri_X7_lot, rl_X7_lot, Nat.le_of_ble_eq_true rfl⟩))⟩), List.forall_mem_cons.mpr ⟨Or.inr (Or.inr ⟨rm_X8_lot, rfl, rp_X8_lot, Or.inr (Or.inr (Or.inl ⟨rfl, rk_9_39, ri_X8_lot, rl_X8_lot, Nat.le_of_ble_eq_true rfl⟩))⟩), List.forall_mem_cons.mpr ⟨Or.inr (Or.inr ⟨rm_X7_acting, rfl, rp_X7_acting, Or.inr (Or.inr (Or.inl ⟨rfl, rk_9_40, ri_X7_acting, rl_X7_acting, Nat.le_of_ble_eq_true rfl⟩))⟩), List.forall_mem_cons.mpr ⟨Or.inr (Or.inr ⟨rm_X8_acting, rfl, rp_X8_acting, Or.inr (Or.inr (Or.inl ⟨rfl, rk_9_43, ri_X8_acting, rl_X8_acting, Nat.le_of_ble_eq_true rfl⟩))⟩), List.forall_mem_cons.mpr ⟨Or.inr (Or.inr ⟨rm_X7_reads, rfl, rp_X7_reads, Or.inr (Or.inr (Or.inl ⟨rfl, rk_9_44, ri_X7_reads, rl_X7_reads, Nat.le_of_ble_eq_true rfl⟩))⟩), List.forall_mem_cons.mpr ⟨Or.inr (Or.inr ⟨rm_X8_reads, rfl, rp_X8_reads, Or.inr (Or.inr (Or.inl ⟨rfl, rk_9_47, ri_X8_reads, rl_X8_reads, Nat.le_of_ble_eq_true rfl⟩))⟩), List.forall_mem_cons.mpr ⟨Or.inr (Or.inr ⟨rm_X7_run, rfl, rp_X7_run, Or.inr (Or.inr (Or.inl ⟨rfl, rk_9_48, ri_X7_run, rl_X7_run, Nat.le_of_ble_eq_true rfl⟩))⟩), List.forall_mem_cons.mpr ⟨Or.inr (Or.inr ⟨rm_X8_run, rfl, rp_X8_run, Or.inr (Or.inr (Or.inl ⟨rfl, rk_9_52, ri_X8_run, rl_X8_run, Nat.le_of_ble_eq_true rfl⟩))⟩), List.forall_mem_cons.mpr ⟨Or.inr (Or.inr ⟨rm_X7_answer, rfl, rp_X7_answer, Or.inr (Or.inr (Or.inl ⟨rfl, rk_9_53, ri_X7_answer, rl_X7_answer, Nat.le_of_ble_eq_true rfl⟩))⟩), List.forall_mem_cons.mpr ⟨Or.inr (Or.inr ⟨rm_X8_answer, rfl, rp_X8_answer, Or.inr (Or.inr (Or.inl ⟨rfl, rk_9_56, ri_X8_answer, rl_X8_answer, Nat.le_of_ble_eq_true rfl⟩))⟩), List.forall_mem_cons.mpr ⟨Or.inr (Or.inr ⟨rm_X7_ran, rfl, rp_X7_ran, Or.inr (Or.inr (Or.inl ⟨rfl, rk_9_57, ri_X7_ran, rl_X7_ran, Nat.le_of_ble_eq_true rfl⟩))⟩), List.forall_mem_cons.mpr ⟨Or.inr (Or.inr ⟨rm_X8_ran, rfl, rp_X8_ran, Or.inr (Or.inr (Or.inl ⟨rfl, rk_9_60, ri_X8_ran, rl_X8_ran, Nat.le_of_ble_eq_true rfl⟩))⟩), List.forall_mem_cons.mpr ⟨Or.inr (Or.inr ⟨rm_X7_keep, rfl, rp_X7_keep, Or.inr (Or.inr (Or.inl ⟨rfl, rk_9_61, ri_X7_keep, rl_X7_keep, Nat.le_of_ble_eq_true rfl⟩))⟩), List.forall_mem_cons.mpr ⟨Or.inr (Or.inr ⟨rm_X8_keep, rfl, rp_X8_keep, Or.inr (Or.inr (Or.inl ⟨rfl, rk_9_65, ri_X8_keep, rl_X8_keep, Nat.le_of_ble_eq_true rfl⟩))⟩), List.forall_mem_cons.mpr ⟨Or.inr (Or.inr ⟨rm_X7_room, rfl, rp_X7_room, Or.inr (Or.inr (Or.inl ⟨rfl, rk_9_66, ri_X7_room, rl_X7_room, Nat.le_of_ble_eq_true rfl⟩))⟩), List.forall_mem_cons.mpr ⟨Or.inr (Or.inr ⟨rm_X8_room, rfl, rp_X8_room, Or.inr (Or.inr (Or.inl ⟨rfl, rk_9_69, ri_X8_room, rl_X8_room, Nat.le_of_ble_eq_true rfl⟩))⟩), List.forall_mem_cons.mpr ⟨Or.inr (Or.inr ⟨rm_X7_forget, rfl, rp_X7_forget, Or.inr (Or.inr (Or.inl ⟨rfl, rk_9_70, ri_X7_forget, rl_X7_forget, Nat.le_of_ble_eq_true rfl⟩))⟩), List.forall_mem_cons.mpr ⟨Or.inr (Or.inr ⟨rm_X8_forget, rfl, rp_X8_forget, Or.inr (Or.inr (Or.inl ⟨rfl, rk_9_73, ri_X8_forget, rl_X8_forget, Nat.le_of_ble_eq_true rfl⟩))⟩), List.forall_mem_cons.mpr ⟨Or.inr (Or.inr ⟨rm_X7_kept, rfl, rp_X7_kept, Or.inr (Or.inr (Or.inl ⟨rfl, rk_9_74, ri_X7_kept, rl_X7_kept, Nat.le_of_ble_eq_true rfl⟩))⟩), List.forall_mem_cons.mpr ⟨Or.inr (Or.inr ⟨rm_X8_kept, rfl, rp_X8_kept, Or.inr (Or.inr (Or.inl ⟨rfl, rk_9_77, ri_X8_kept, rl_X8_kept, Nat.le_of_ble_eq_true rfl⟩))⟩), List.forall_mem_cons.mpr ⟨Or.inr (Or.inr ⟨rm_X7_log, rfl, rp_X7_log, Or.inr (Or.inr (Or.inl ⟨rfl, rk_9_78, ri_X7_log, rl_X7_log, Nat.le_of_ble_eq_true rfl⟩))⟩), List.forall_mem_cons.mpr ⟨Or.inr (Or.inr ⟨rm_X8_log, rfl, rp_X8_log, Or.inr (Or.inr (Or.inl ⟨rfl, rk_9_81, ri_X8_log, rl_X8_log, Nat.le_of_ble_eq_true rfl⟩))⟩), List.forall_mem_cons.mpr ⟨Or.inr (Or.inr ⟨rm_X7_clear, rfl, rp_X7_clear, Or.inr (Or.inr (Or.inl ⟨rfl, rk_9_82, ri_X7_clear, rl_X7_clear, Nat.le_of_ble_eq_true rfl⟩))⟩), List.forall_mem_cons.mpr ⟨Or.inr (Or.inr ⟨rm_X8_clear, rfl, rp_X8_clear, Or.inr (Or.inr (Or.inl ⟨rfl, rk_9_85, ri_X8_clear, rl_X8_clear, Nat.le_of_ble_eq_true rfl⟩))⟩), List.forall_mem_cons.mpr ⟨Or.inr (Or.inr ⟨rm_X7_cost, rfl, rp_X7_cost, Or.inr (Or.inr (Or.inl ⟨rfl, rk_9_86, ri_X7_cost, rl_X7_cost, Nat.le_of_ble_eq_true rfl⟩))⟩), List.forall_mem_cons.mpr ⟨Or.inr (Or.inr ⟨rm_X8_cost, rfl, rp_X8_cost, Or.inr (Or.inr (Or.inl ⟨rfl, rk_9_89, ri_X8_cost, rl_X8_cost, Nat.le_of_ble_eq_true rfl⟩))⟩), List.forall_mem_cons.mpr ⟨Or.inr (Or.inr ⟨rm_X7_best, rfl, rp_X7_best, Or.inr (Or.inr (Or.inl ⟨rfl, rk_9_90, ri_X7_best, rl_X7_best, Nat.le_of_ble_eq_true rfl⟩))⟩), List.forall_mem_cons.mpr ⟨Or.inr (Or.inr ⟨rm_X8_best, rfl, rp_X8_best, Or.inr (Or.inr (Or.inl ⟨rfl, rk_9_93, ri_X8_best, rl_X8_best, Nat.le_of_ble_eq_true rfl⟩))⟩), List.forall_mem_cons.mpr ⟨Or.inr (Or.inr ⟨rm_X7_told, rfl, rp_X7_told, Or.inr (Or.inr (Or.inl ⟨rfl, rk_9_94, ri_X7_told, rl_X7_told, Nat.le_of_ble_eq_true rfl⟩))⟩), List.forall_mem_cons.mpr ⟨Or.inr (Or.inr ⟨rm_X8_told, rfl, rp_X8_told, Or.inr (Or.inr (Or.inl ⟨rfl, rk_9_97, ri_X8_told, rl_X8_told, Nat.le_of_ble_eq_true rfl⟩))⟩), fun _ h => absurd h List.not_mem_nil⟩⟩⟩⟩⟩⟩⟩⟩⟩⟩⟩⟩⟩⟩⟩⟩⟩⟩⟩⟩⟩⟩⟩⟩⟩⟩⟩⟩⟩⟩⟩⟩⟩⟩⟩⟩⟩⟩⟩⟩⟩⟩
theorem rk_mlp_10 : ∀ q ∈ rk_ml 10, rk_mlp 10 q := fun _ h => absurd h List.not_mem_nil
theorem rk_mlp_11 : ∀ q ∈ rk_ml 11, rk_mlp 11 q := fun _ h => absurd h List.not_mem_nil
theorem rk_ml_ok : ∀ c, c < 12 → ∀ q ∈ rk_ml c, rk_mlp c q
  | 0, _ => rk_mlp_0
  | 1, _ => rk_mlp_1
  | 2, _ => rk_mlp_2
  | 3, _ => rk_mlp_3
  | 4, _ => rk_mlp_4
  | 5, _ => rk_mlp_5
  | 6, _ => rk_mlp_6
  | 7, _ => rk_mlp_7
  | 8, _ => rk_mlp_8
  | 9, _ => rk_mlp_9
  | 10, _ => rk_mlp_10
  | 11, _ => rk_mlp_11
  | _ + 12, h => absurd h (by omega)
set_option maxRecDepth 100000 in
theorem rk_oc : Cond.code objectInit ⟨#[0xb1]⟩ 1 none ∈ lw_tbl ∧ Cond.code Lib.Math.max.name Lib.Math.max.code 2 (some .int) ∈ lw_tbl := ⟨List.mem_of_getElem? (i := 60) rfl, List.mem_of_getElem? (i := 593) rfl⟩
def rk_P1 (M : rk_M) : Bool := Nat.blt M.2.2.2.2.1 12 && (decide (rk_cn M.2.2.2.2.1 = M.1.cls) && (plainName M.1.cls && (decide (M.1.cls ≠ "java/lang/invoke/MethodHandle") && (decide (M.1.cls ≠ "java/lang/invoke/VarHandle") && decide (Cond.initialized M.1.cls ∈ lw_tbl)))))
set_option maxRecDepth 100000 in
theorem rk_P1_ok : ∀ M ∈ rk_Ms, rk_P1 M = true := by decide +kernel
def rk_kd (d : String) (k : Nat) : Bool := match parseFieldDescriptor d with
  | some .int => Nat.beq k 0
  | some .boolean => Nat.beq k 1
  | some (.object _) => Nat.beq k 2
  | some (.array _) => Nat.beq k 2
  | _ => false
def rk_flc (c : Nat) (q : Nat × Nat × Nat × Nat × Bool × Bool) : Bool := match vwCl[q.2.1]? with
  | some r => Nat.blt q.2.2.1 r.2.2 && (decide ((r.2.1 q.2.2.1).2.2.2 = q.2.2.2.2.1) && (rk_kd (r.2.1 q.2.2.1).2.2.1 q.2.2.2.1 && (bif q.2.2.2.2.2 then decide (Cond.fieldLinkNest (rk_cn c) q.1 (r.2.1 q.2.2.1).1 (r.2.1 q.2.2.1).2.1 (r.2.1 q.2.2.1).2.2.1 RX7 ∈ lw_tbl) else decide (Cond.fieldLink (rk_cn c) q.1 (r.2.1 q.2.2.1).1 (r.2.1 q.2.2.1).2.1 (r.2.1 q.2.2.1).2.2.1 ∈ lw_tbl))))
  | none => false
set_option maxRecDepth 100000 in
theorem rk_fl_ok : ∀ c, c < 12 → ∀ q ∈ rk_fl c, rk_flc c q = true := by decide +kernel
def rk_klc (c : Nat) (q : Nat × Nat) : Bool := bif Nat.beq q.2 13 then decide (Cond.classLink (rk_cn c) q.1 "[[I" ∈ lw_tbl) else
  match vwCl[q.2]? with
  | some r => decide (Cond.classLink (rk_cn c) q.1 r.1 ∈ lw_tbl)
  | none => false
set_option maxRecDepth 100000 in
theorem rk_kl_ok : ∀ c, c < 12 → ∀ q ∈ rk_kl c, rk_klc c q = true := by decide +kernel
set_option maxRecDepth 100000 in
theorem rk_cl_ok : ∀ c, c < 12 → ∀ q ∈ rk_cl c, Cond.constant (rk_cn c) q.1 q.2 ∈ lw_tbl := by decide +kernel
def rk_nz (l : List String) : Bool := match l with
  | [] => true
  | a :: r => (r.all fun b => decide (a ≠ b)) && rk_nz r
/-- what the tables say of a class: its fields' words, their names apart, it can be made -/
def rk_cc (r : vw_C) (df : List Value) : Prop := (∀ w ∈ u_ws r.1 r.2.1 r.2.2, w ∈ lw_tbl) ∧ (∃ ty : Nat → FieldType, (∀ k, k < r.2.2 → parseFieldDescriptor (r.2.1 k).2.2.1 = some (ty k)) ∧ ∀ k, k < r.2.2 → defaultValue (ty k) = vp_V df k) ∧ (∀ a, a < r.2.2 → ∀ b, b < r.2.2 → a ≠ b → (r.2.1 a).2.1 ≠ (r.2.1 b).2.1) ∧ Cond.instantiable r.1 r.2.2 ∈ lw_tbl ∧ Cond.initialized r.1 ∈ lw_tbl ∧ df.length = r.2.2
set_option maxRecDepth 100000 in
theorem rk_cc0 : rk_cc (RX0, TX0, 7) (rk_df 0) := ⟨by decide +kernel, ⟨tyX0, tyX0_ok, by decide +kernel⟩, nmX0, by decide +kernel, by decide +kernel, rfl⟩
set_option maxRecDepth 100000 in
theorem rk_cc1 : rk_cc (RX1, TX1, 11) (rk_df 1) := ⟨by decide +kernel, ⟨tyX1, tyX1_ok, by decide +kernel⟩, nmX1, by decide +kernel, by decide +kernel, rfl⟩
set_option maxRecDepth 100000 in
theorem rk_cc2 : rk_cc (RX2, TX2, 12) (rk_df 2) := ⟨by decide +kernel, ⟨tyX2, tyX2_ok, by decide +kernel⟩, nmX2, by decide +kernel, by decide +kernel, rfl⟩
set_option maxRecDepth 100000 in
theorem rk_cc3 : rk_cc (RX3, TX3, 6) (rk_df 3) := ⟨by decide +kernel, ⟨tyX3, tyX3_ok, by decide +kernel⟩, nmX3, by decide +kernel, by decide +kernel, rfl⟩
set_option maxRecDepth 100000 in
theorem rk_cc4 : rk_cc (RX4, TX4, 2) (rk_df 4) := ⟨by decide +kernel, ⟨tyX4, tyX4_ok, by decide +kernel⟩, nmX4, by decide +kernel, by decide +kernel, rfl⟩
set_option maxRecDepth 100000 in
theorem rk_cc5 : rk_cc (RX5, TX5, 5) (rk_df 5) := ⟨by decide +kernel, ⟨tyX5, tyX5_ok, by decide +kernel⟩, nmX5, by decide +kernel, by decide +kernel, rfl⟩
set_option maxRecDepth 100000 in
theorem rk_cc6 : rk_cc (RX6, TX6, 2) (rk_df 6) := ⟨by decide +kernel, ⟨tyX6, tyX6_ok, by decide +kernel⟩, nmX6, by decide +kernel, by decide +kernel, rfl⟩
set_option maxRecDepth 100000 in
theorem rk_cc7 : rk_cc (RX7, TX7, 10) (rk_df 7) := ⟨by decide +kernel, ⟨tyX7, tyX7_ok, by decide +kernel⟩, nmX7, by decide +kernel, by decide +kernel, rfl⟩
set_option maxRecDepth 100000 in
theorem rk_cc8 : rk_cc (RX8, TX8, 47) (rk_df 8) := ⟨by decide +kernel, ⟨tyX8, tyX8_ok, by decide +kernel⟩, nmX8, by decide +kernel, by decide +kernel, rfl⟩
theorem rk_cc_ok : ∀ (ci : Nat) (r : vw_C), vwCl[ci]? = some r → rk_cc r (rk_df ci)
  | 0, _, h => by cases h; exact rk_cc0
  | 1, _, h => by cases h; exact rk_cc1
  | 2, _, h => by cases h; exact rk_cc2
  | 3, _, h => by cases h; exact rk_cc3
  | 4, _, h => by cases h; exact rk_cc4
  | 5, _, h => by cases h; exact rk_cc5
  | 6, _, h => by cases h; exact rk_cc6
  | 7, _, h => by cases h; exact rk_cc7
  | 8, _, h => by cases h; exact rk_cc8
  | _ + 9, _, h => by cases h
set_option maxRecDepth 100000 in
theorem rk_w0 : Cond.instanceMethod objectInit ∈ lw_tbl ∧ Cond.arrayClass .int ∈ lw_tbl ∧ Cond.arrayClass .boolean ∈ lw_tbl ∧ Cond.arrayOver (.object RX0) ∈ lw_tbl ∧ Cond.arrayOver (.object RX1) ∈ lw_tbl ∧ Cond.arrayOver (.array .int) ∈ lw_tbl := by decide +kernel
def rk_W : List Cond := lw_tbl.filter goodWord
theorem rk_in {w : Cond} (h : w ∈ lw_tbl) (hg : goodWord w = true) : w ∈ rk_W := List.mem_filter.mpr ⟨h, hg⟩
theorem rk_good : GoodIn rk_W rk_W := fun w h => ⟨h, good_of_word (List.mem_filter.mp h).2⟩
set_option maxRecDepth 100000 in
theorem rk_w1 : Cond.static Lib.Math.max.name ∈ lw_tbl ∧ Cond.initialized "java/lang/Math" ∈ lw_tbl := by decide +kernel
