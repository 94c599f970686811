set_option maxRecDepth 20000 in
theorem ggX0_reduce_X0_atLeast : GoodIn wsX0_reduce wsX0_atLeast := goodIn_r _ [7, 8, 9, 10, 11, 12, 13, 14, 15, 16, 17] rfl (by decide +kernel)
set_option maxRecDepth 20000 in
theorem gX0_reduce_X0_atLeast : GoodIn wsX0_reduce (wsV RX0 34 RX0 yX0_atLeast wsX0_atLeast) := goodIn_app (goodIn_r _ [3, 4, 5, 6] rfl (by decide +kernel)) ggX0_reduce_X0_atLeast
set_option maxRecDepth 20000 in
theorem ggX1_store_X7_saveTo : GoodIn wsX1_store wsX7_saveTo := goodIn_r _ [7, 8, 9, 10, 11, 12, 15] rfl (by decide +kernel)
set_option maxRecDepth 20000 in
theorem gX1_store_X7_saveTo : GoodIn wsX1_store (wsV RX1 21 RX7 yX7_saveTo wsX7_saveTo) := goodIn_app (goodIn_r _ [3, 4, 5, 6] rfl (by decide +kernel)) ggX1_store_X7_saveTo
set_option maxRecDepth 20000 in
theorem ggX1_restore_X7_loadFrom : GoodIn wsX1_restore wsX7_loadFrom := goodIn_r _ [7, 8, 9, 10, 11, 12, 15] rfl (by decide +kernel)
set_option maxRecDepth 20000 in
theorem gX1_restore_X7_loadFrom : GoodIn wsX1_restore (wsV RX1 25 RX7 yX7_loadFrom wsX7_loadFrom) := goodIn_app (goodIn_r _ [3, 4, 5, 6] rfl (by decide +kernel)) ggX1_restore_X7_loadFrom
set_option maxRecDepth 20000 in
theorem ggX3_look_X7_copies : GoodIn wsX3_look wsX7_copies := goodIn_r _ [16, 17, 67] rfl (by decide +kernel)
set_option maxRecDepth 20000 in
theorem gX3_look_X7_copies : GoodIn wsX3_look (wsV RX3 33 RX7 yX7_copies wsX7_copies) := goodIn_app (goodIn_r _ [12, 13, 14, 15] rfl (by decide +kernel)) ggX3_look_X7_copies
set_option maxRecDepth 20000 in
theorem ggX3_look_X7_isUp : GoodIn wsX3_look wsX7_isUp := goodIn_r _ [21, 17, 67] rfl (by decide +kernel)
set_option maxRecDepth 20000 in
theorem gX3_look_X7_isUp : GoodIn wsX3_look (wsV RX3 39 RX7 yX7_isUp wsX7_isUp) := goodIn_app (goodIn_r _ [18, 19, 20, 15] rfl (by decide +kernel)) ggX3_look_X7_isUp
set_option maxRecDepth 20000 in
theorem ggX3_look_X7_groupOf : GoodIn wsX3_look wsX7_groupOf := goodIn_r _ [25, 17, 67] rfl (by decide +kernel)
set_option maxRecDepth 20000 in
theorem gX3_look_X7_groupOf : GoodIn wsX3_look (wsV RX3 43 RX7 yX7_groupOf wsX7_groupOf) := goodIn_app (goodIn_r _ [22, 23, 24, 15] rfl (by decide +kernel)) ggX3_look_X7_groupOf
set_option maxRecDepth 20000 in
theorem ggX3_look_X7_configurationOf : GoodIn wsX3_look wsX7_configurationOf := goodIn_r _ [29, 17, 67] rfl (by decide +kernel)
set_option maxRecDepth 20000 in
theorem gX3_look_X7_configurationOf : GoodIn wsX3_look (wsV RX3 47 RX7 yX7_configurationOf wsX7_configurationOf) := goodIn_app (goodIn_r _ [26, 27, 28, 15] rfl (by decide +kernel)) ggX3_look_X7_configurationOf
set_option maxRecDepth 20000 in
theorem ggX3_look_X7_versionOf : GoodIn wsX3_look wsX7_versionOf := goodIn_r _ [33, 17, 67] rfl (by decide +kernel)
set_option maxRecDepth 20000 in
theorem gX3_look_X7_versionOf : GoodIn wsX3_look (wsV RX3 56 RX7 yX7_versionOf wsX7_versionOf) := goodIn_app (goodIn_r _ [30, 31, 32, 15] rfl (by decide +kernel)) ggX3_look_X7_versionOf
set_option maxRecDepth 20000 in
theorem ggX3_look_X7_votesOfSet : GoodIn wsX3_look wsX7_votesOfSet := goodIn_r _ [37, 38, 13, 14, 15, 16, 17, 39, 40, 41, 42, 67] rfl (by decide +kernel)
set_option maxRecDepth 20000 in
theorem gX3_look_X7_votesOfSet : GoodIn wsX3_look (wsV RX3 59 RX7 yX7_votesOfSet wsX7_votesOfSet) := goodIn_app (goodIn_r _ [34, 35, 36, 15] rfl (by decide +kernel)) ggX3_look_X7_votesOfSet
set_option maxRecDepth 20000 in
theorem ggX3_look_X7_readOf : GoodIn wsX3_look wsX7_readOf := goodIn_r _ [46, 17, 67] rfl (by decide +kernel)
set_option maxRecDepth 20000 in
theorem gX3_look_X7_readOf : GoodIn wsX3_look (wsV RX3 62 RX7 yX7_readOf wsX7_readOf) := goodIn_app (goodIn_r _ [43, 44, 45, 15] rfl (by decide +kernel)) ggX3_look_X7_readOf
set_option maxRecDepth 20000 in
theorem ggX3_look_X7_writeOf : GoodIn wsX3_look wsX7_writeOf := goodIn_r _ [50, 17, 67] rfl (by decide +kernel)
set_option maxRecDepth 20000 in
theorem gX3_look_X7_writeOf : GoodIn wsX3_look (wsV RX3 65 RX7 yX7_writeOf wsX7_writeOf) := goodIn_app (goodIn_r _ [47, 48, 49, 15] rfl (by decide +kernel)) ggX3_look_X7_writeOf
set_option maxRecDepth 20000 in
theorem ggX3_look_X3_findValue : GoodIn wsX3_look wsX3_findValue := goodIn_r _ [55, 5, 1, 4, 12, 13, 14, 15, 16, 17, 30, 31, 32, 33, 56, 57, 58, 59, 60, 61, 62, 63, 64, 65, 66, 67] rfl (by decide +kernel)
set_option maxRecDepth 20000 in
theorem gX3_look_X3_findValue : GoodIn wsX3_look (wsV RX3 68 RX3 yX3_findValue wsX3_findValue) := goodIn_app (goodIn_r _ [51, 52, 53, 54] rfl (by decide +kernel)) ggX3_look_X3_findValue
set_option maxRecDepth 20000 in
theorem ggX3_findValue_X7_copies : GoodIn wsX3_findValue wsX7_copies := goodIn_r _ [8, 9, 25] rfl (by decide +kernel)
set_option maxRecDepth 20000 in
theorem gX3_findValue_X7_copies : GoodIn wsX3_findValue (wsV RX3 33 RX7 yX7_copies wsX7_copies) := goodIn_app (goodIn_r _ [4, 5, 6, 7] rfl (by decide +kernel)) ggX3_findValue_X7_copies
set_option maxRecDepth 20000 in
theorem ggX3_findValue_X7_versionOf : GoodIn wsX3_findValue wsX7_versionOf := goodIn_r _ [13, 9, 25] rfl (by decide +kernel)
set_option maxRecDepth 20000 in
theorem gX3_findValue_X7_versionOf : GoodIn wsX3_findValue (wsV RX3 56 RX7 yX7_versionOf wsX7_versionOf) := goodIn_app (goodIn_r _ [10, 11, 12, 7] rfl (by decide +kernel)) ggX3_findValue_X7_versionOf
set_option maxRecDepth 20000 in
theorem ggX3_findValue_X7_valueOf : GoodIn wsX3_findValue wsX7_valueOf := goodIn_r _ [17, 9, 25] rfl (by decide +kernel)
set_option maxRecDepth 20000 in
theorem gX3_findValue_X7_valueOf : GoodIn wsX3_findValue (wsV RX3 72 RX7 yX7_valueOf wsX7_valueOf) := goodIn_app (goodIn_r _ [14, 15, 16, 7] rfl (by decide +kernel)) ggX3_findValue_X7_valueOf
set_option maxRecDepth 20000 in
theorem ggX3_can_X3_refusal : GoodIn wsX3_can wsX3_refusal := goodIn_r _ [5, 6, 7, 8, 9, 10, 11, 12, 13, 14, 15] rfl (by decide +kernel)
set_option maxRecDepth 20000 in
theorem gX3_can_X3_refusal : GoodIn wsX3_can (wsV RX3 75 RX3 yX3_refusal wsX3_refusal) := goodIn_app (goodIn_r _ [1, 2, 3, 4] rfl (by decide +kernel)) ggX3_can_X3_refusal
set_option maxRecDepth 20000 in
theorem ggX4_remember_X7_saveTo : GoodIn wsX4_remember wsX7_saveTo := goodIn_r _ [12, 13, 14, 15, 16, 17, 21] rfl (by decide +kernel)
set_option maxRecDepth 20000 in
theorem gX4_remember_X7_saveTo : GoodIn wsX4_remember (wsV RX4 24 RX7 yX7_saveTo wsX7_saveTo) := goodIn_app (goodIn_r _ [8, 9, 10, 11] rfl (by decide +kernel)) ggX4_remember_X7_saveTo
set_option maxRecDepth 20000 in
theorem ggX4_restore_X7_loadFrom : GoodIn wsX4_restore wsX7_loadFrom := goodIn_r _ [8, 9, 10, 11, 12, 13, 17] rfl (by decide +kernel)
set_option maxRecDepth 20000 in
theorem gX4_restore_X7_loadFrom : GoodIn wsX4_restore (wsV RX4 34 RX7 yX7_loadFrom wsX7_loadFrom) := goodIn_app (goodIn_r _ [4, 5, 6, 7] rfl (by decide +kernel)) ggX4_restore_X7_loadFrom
set_option maxRecDepth 20000 in
theorem ggX5_run_X5_isFalling : GoodIn wsX5_run wsX5_isFalling := goodIn_r _ [5, 6, 7, 4, 8] rfl (by decide +kernel)
set_option maxRecDepth 20000 in
theorem gX5_run_X5_isFalling : GoodIn wsX5_run (va_wsS RX5 21 yX5_isFalling wsX5_isFalling) := goodIn_app (goodIn_r _ [2, 3, 4] rfl (by decide +kernel)) ggX5_run_X5_isFalling
set_option maxRecDepth 20000 in
theorem ggX5_run_X0_begin : GoodIn wsX5_run wsX0_begin := goodIn_r _ [13, 14, 15, 41, 42, 43, 44] rfl (by decide +kernel)
set_option maxRecDepth 20000 in
theorem gX5_run_X0_begin : GoodIn wsX5_run (wsV RX5 25 RX0 yX0_begin wsX0_begin) := goodIn_app (goodIn_r _ [9, 10, 11, 12] rfl (by decide +kernel)) ggX5_run_X0_begin
set_option maxRecDepth 20000 in
theorem ggX5_run_X5_votesIn : GoodIn wsX5_run wsX5_votesIn := goodIn_r _ [8] rfl (by decide +kernel)
set_option maxRecDepth 20000 in
theorem gX5_run_X5_votesIn : GoodIn wsX5_run (va_wsS RX5 30 yX5_votesIn wsX5_votesIn) := goodIn_app (goodIn_r _ [6, 7, 4] rfl (by decide +kernel)) ggX5_run_X5_votesIn
set_option maxRecDepth 20000 in
theorem ggX5_run_X0_join : GoodIn wsX5_run wsX0_join := goodIn_r _ [19, 15, 20, 21, 22, 23, 14, 41, 42, 43, 44] rfl (by decide +kernel)
set_option maxRecDepth 20000 in
theorem gX5_run_X0_join : GoodIn wsX5_run (wsV RX5 34 RX0 yX0_join wsX0_join) := goodIn_app (goodIn_r _ [16, 17, 18, 12] rfl (by decide +kernel)) ggX5_run_X0_join
set_option maxRecDepth 20000 in
theorem ggX5_run_X5_tryWrites : GoodIn wsX5_run wsX5_tryWrites := goodIn_r _ [27, 28, 1, 29, 30, 31, 32, 33, 12, 34, 35, 36, 22, 37, 15, 14, 41, 42, 43, 44, 38, 39, 40] rfl (by decide +kernel)
set_option maxRecDepth 20000 in
theorem gX5_run_X5_tryWrites : GoodIn wsX5_run (wsV RX5 38 RX5 yX5_tryWrites wsX5_tryWrites) := goodIn_app (goodIn_r _ [24, 25, 26, 4] rfl (by decide +kernel)) ggX5_run_X5_tryWrites
set_option maxRecDepth 20000 in
theorem ggX5_isFalling_X5_votesIn : GoodIn wsX5_isFalling wsX5_votesIn := goodIn_r _ [4] rfl (by decide +kernel)
set_option maxRecDepth 20000 in
theorem gX5_isFalling_X5_votesIn : GoodIn wsX5_isFalling (va_wsS RX5 30 yX5_votesIn wsX5_votesIn) := goodIn_app (goodIn_r _ [1, 2, 3] rfl (by decide +kernel)) ggX5_isFalling_X5_votesIn
set_option maxRecDepth 20000 in
theorem ggX5_tryWrites_X0_atLeast : GoodIn wsX5_tryWrites wsX0_atLeast := goodIn_r _ [9, 10, 11, 12, 13, 14, 15, 16, 17, 18, 19] rfl (by decide +kernel)
set_option maxRecDepth 20000 in
theorem gX5_tryWrites_X0_atLeast : GoodIn wsX5_tryWrites (wsV RX5 45 RX0 yX0_atLeast wsX0_atLeast) := goodIn_app (goodIn_r _ [5, 6, 7, 8] rfl (by decide +kernel)) ggX5_tryWrites_X0_atLeast
set_option maxRecDepth 20000 in
theorem ggX6_allows_X7_newest : GoodIn wsX6_allows wsX7_newest := goodIn_r _ [8, 9, 41] rfl (by decide +kernel)
set_option maxRecDepth 20000 in
theorem gX6_allows_X7_newest : GoodIn wsX6_allows (wsV RX6 23 RX7 yX7_newest wsX7_newest) := goodIn_app (goodIn_r _ [4, 5, 6, 7] rfl (by decide +kernel)) ggX6_allows_X7_newest
set_option maxRecDepth 20000 in
theorem ggX6_allows_X7_sets : GoodIn wsX6_allows wsX7_sets := goodIn_r _ [13, 9, 41] rfl (by decide +kernel)
set_option maxRecDepth 20000 in
theorem gX6_allows_X7_sets : GoodIn wsX6_allows (wsV RX6 29 RX7 yX7_sets wsX7_sets) := goodIn_app (goodIn_r _ [10, 11, 12, 7] rfl (by decide +kernel)) ggX6_allows_X7_sets
set_option maxRecDepth 20000 in
theorem ggX6_allows_X7_votesOfSet : GoodIn wsX6_allows wsX7_votesOfSet := goodIn_r _ [17, 18, 19, 20, 7, 21, 9, 22, 23, 24, 25, 41] rfl (by decide +kernel)
set_option maxRecDepth 20000 in
theorem gX6_allows_X7_votesOfSet : GoodIn wsX6_allows (wsV RX6 32 RX7 yX7_votesOfSet wsX7_votesOfSet) := goodIn_app (goodIn_r _ [14, 15, 16, 7] rfl (by decide +kernel)) ggX6_allows_X7_votesOfSet
set_option maxRecDepth 20000 in
theorem ggX6_allows_X7_need : GoodIn wsX6_allows wsX7_need := goodIn_r _ [29, 30, 31, 32, 7, 33, 9, 34, 35, 36, 37, 41] rfl (by decide +kernel)
set_option maxRecDepth 20000 in
theorem gX6_allows_X7_need : GoodIn wsX6_allows (wsV RX6 36 RX7 yX7_need wsX7_need) := goodIn_app (goodIn_r _ [26, 27, 28, 7] rfl (by decide +kernel)) ggX6_allows_X7_need
set_option maxRecDepth 20000 in
theorem ggX7_begin_X7_setNeeds : GoodIn wsX7_begin wsX7_setNeeds := goodIn_r _ [11, 1, 16] rfl (by decide +kernel)
set_option maxRecDepth 20000 in
theorem gX7_begin_X7_setNeeds : GoodIn wsX7_begin (wsV RX7 27 RX7 yX7_setNeeds wsX7_setNeeds) := goodIn_app (goodIn_r _ [7, 8, 9, 10] rfl (by decide +kernel)) ggX7_begin_X7_setNeeds
set_option maxRecDepth 20000 in
theorem ggX7_begin_X7_setVoter : GoodIn wsX7_begin wsX7_setVoter := goodIn_r _ [15, 1, 16] rfl (by decide +kernel)
set_option maxRecDepth 20000 in
theorem gX7_begin_X7_setVoter : GoodIn wsX7_begin (wsV RX7 37 RX7 yX7_setVoter wsX7_setVoter) := goodIn_app (goodIn_r _ [12, 13, 14, 10] rfl (by decide +kernel)) ggX7_begin_X7_setVoter
set_option maxRecDepth 20000 in
theorem ggX7_renew_X7_copies : GoodIn wsX7_renew wsX7_copies := goodIn_r _ [6, 1, 11] rfl (by decide +kernel)
set_option maxRecDepth 20000 in
theorem gX7_renew_X7_copies : GoodIn wsX7_renew (wsV RX7 47 RX7 yX7_copies wsX7_copies) := goodIn_app (goodIn_r _ [2, 3, 4, 5] rfl (by decide +kernel)) ggX7_renew_X7_copies
set_option maxRecDepth 20000 in
theorem ggX7_renew_X7_isWitness : GoodIn wsX7_renew wsX7_isWitness := goodIn_r _ [10, 1, 11] rfl (by decide +kernel)
set_option maxRecDepth 20000 in
theorem gX7_renew_X7_isWitness : GoodIn wsX7_renew (wsV RX7 50 RX7 yX7_isWitness wsX7_isWitness) := goodIn_app (goodIn_r _ [7, 8, 9, 5] rfl (by decide +kernel)) ggX7_renew_X7_isWitness
set_option maxRecDepth 20000 in
theorem ggX7_need_X7_readOf : GoodIn wsX7_need wsX7_readOf := goodIn_r _ [5, 6, 11] rfl (by decide +kernel)
set_option maxRecDepth 20000 in
theorem gX7_need_X7_readOf : GoodIn wsX7_need (wsV RX7 54 RX7 yX7_readOf wsX7_readOf) := goodIn_app (goodIn_r _ [1, 2, 3, 4] rfl (by decide +kernel)) ggX7_need_X7_readOf
set_option maxRecDepth 20000 in
theorem ggX7_need_X7_writeOf : GoodIn wsX7_need wsX7_writeOf := goodIn_r _ [10, 6, 11] rfl (by decide +kernel)
set_option maxRecDepth 20000 in
theorem gX7_need_X7_writeOf : GoodIn wsX7_need (wsV RX7 58 RX7 yX7_writeOf wsX7_writeOf) := goodIn_app (goodIn_r _ [7, 8, 9, 4] rfl (by decide +kernel)) ggX7_need_X7_writeOf
set_option maxRecDepth 20000 in
theorem ggX7_total_X7_sets : GoodIn wsX7_total wsX7_sets := goodIn_r _ [5, 6, 19] rfl (by decide +kernel)
set_option maxRecDepth 20000 in
theorem gX7_total_X7_sets : GoodIn wsX7_total (wsV RX7 61 RX7 yX7_sets wsX7_sets) := goodIn_app (goodIn_r _ [1, 2, 3, 4] rfl (by decide +kernel)) ggX7_total_X7_sets
set_option maxRecDepth 20000 in
theorem ggX7_total_X7_votesOfSet : GoodIn wsX7_total wsX7_votesOfSet := goodIn_r _ [10, 11, 12, 13, 4, 14, 6, 15, 16, 17, 18, 19] rfl (by decide +kernel)
set_option maxRecDepth 20000 in
theorem gX7_total_X7_votesOfSet : GoodIn wsX7_total (wsV RX7 64 RX7 yX7_votesOfSet wsX7_votesOfSet) := goodIn_app (goodIn_r _ [7, 8, 9, 4] rfl (by decide +kernel)) ggX7_total_X7_votesOfSet
set_option maxRecDepth 20000 in
theorem ggX7_votesOfSet_X7_copies : GoodIn wsX7_votesOfSet wsX7_copies := goodIn_r _ [5, 6, 11] rfl (by decide +kernel)
set_option maxRecDepth 20000 in
theorem gX7_votesOfSet_X7_copies : GoodIn wsX7_votesOfSet (wsV RX7 47 RX7 yX7_copies wsX7_copies) := goodIn_app (goodIn_r _ [1, 2, 3, 4] rfl (by decide +kernel)) ggX7_votesOfSet_X7_copies
set_option maxRecDepth 20000 in
theorem ggX7_votesOfSet_X7_votesOf : GoodIn wsX7_votesOfSet wsX7_votesOf := goodIn_r _ [10, 6, 11] rfl (by decide +kernel)
set_option maxRecDepth 20000 in
theorem gX7_votesOfSet_X7_votesOf : GoodIn wsX7_votesOfSet (wsV RX7 68 RX7 yX7_votesOf wsX7_votesOf) := goodIn_app (goodIn_r _ [7, 8, 9, 4] rfl (by decide +kernel)) ggX7_votesOfSet_X7_votesOf
set_option maxRecDepth 20000 in
theorem ggX8_init_X9_init : GoodIn wsX8_init wsX9_init := goodIn_r _ [17, 18, 2, 3, 19, 20, 21, 22, 23, 31, 32, 33, 34, 35] rfl (by decide +kernel)
set_option maxRecDepth 20000 in
theorem gX8_init_X9_init : GoodIn wsX8_init (wsX9_init) := ggX8_init_X9_init
set_option maxRecDepth 20000 in
theorem ggX8_faultOf_X9_rewind : GoodIn wsX8_faultOf wsX9_rewind := goodIn_r _ [13, 14, 136, 137, 138, 139, 140] rfl (by decide +kernel)
set_option maxRecDepth 20000 in
theorem gX8_faultOf_X9_rewind : GoodIn wsX8_faultOf (wsV RX8 40 RX9 yX9_rewind wsX9_rewind) := goodIn_app (goodIn_r _ [9, 10, 11, 12] rfl (by decide +kernel)) ggX8_faultOf_X9_rewind
set_option maxRecDepth 20000 in
theorem ggX8_faultOf_X9_advance : GoodIn wsX8_faultOf wsX9_advance := goodIn_r _ [18, 14, 19, 20, 21, 22, 23, 24, 25, 26, 27, 28, 29, 30, 31, 12, 32, 33, 34, 35, 36, 37, 38, 39, 40, 41, 42, 43, 44, 45, 46, 47, 48, 49, 50, 51, 52, 53, 54, 55, 56, 57, 58, 59, 60, 61, 62, 63, 64, 65, 66, 67, 68, 69, 70, 71, 72, 73, 74, 75, 76, 77, 78, 79, 80, 81, 82, 83, 84, 85, 86, 87, 88, 89, 90, 91, 92, 93, 94, 95, 96, 97, 98, 99, 100, 101, 102, 103, 104, 136, 137, 138, 139, 140, 141, 142] rfl (by decide +kernel)
set_option maxRecDepth 20000 in
theorem gX8_faultOf_X9_advance : GoodIn wsX8_faultOf (wsV RX8 43 RX9 yX9_advance wsX9_advance) := goodIn_app (goodIn_r _ [15, 16, 17, 12] rfl (by decide +kernel)) ggX8_faultOf_X9_advance
set_option maxRecDepth 20000 in
theorem ggX8_faultOf_X8_takeItem : GoodIn wsX8_faultOf wsX8_takeItem := goodIn_r _ [109, 1, 7, 110, 111, 112, 113, 108, 114, 3, 4, 5, 15, 16, 17, 12, 18, 14, 19, 20, 21, 22, 23, 24, 25, 26, 27, 28, 29, 30, 31, 32, 33, 34, 35, 36, 37, 38, 39, 40, 41, 42, 43, 44, 45, 46, 47, 48, 49, 50, 51, 52, 53, 54, 55, 56, 57, 58, 59, 60, 61, 62, 63, 64, 65, 66, 67, 68, 69, 70, 71, 72, 73, 74, 75, 76, 77, 78, 79, 80, 81, 82, 83, 84, 85, 86, 87, 88, 89, 90, 91, 92, 93, 94, 95, 96, 97, 98, 99, 100, 101, 102, 103, 104, 115, 116, 117, 118, 119, 120, 121, 6, 122, 2, 129, 130, 131, 132, 133, 134, 135, 136, 137, 138, 139, 140, 141, 142] rfl (by decide +kernel)
set_option maxRecDepth 20000 in
theorem gX8_faultOf_X8_takeItem : GoodIn wsX8_faultOf (wsV RX8 49 RX8 yX8_takeItem wsX8_takeItem) := goodIn_app (goodIn_r _ [105, 106, 107, 108] rfl (by decide +kernel)) ggX8_faultOf_X8_takeItem
set_option maxRecDepth 20000 in
theorem ggX8_faultOf_X8_isRight : GoodIn wsX8_faultOf wsX8_isRight := goodIn_r _ [126, 6, 4, 5, 3, 122, 127, 34, 128, 129, 130, 131, 132, 133, 134, 135] rfl (by decide +kernel)
set_option maxRecDepth 20000 in
theorem gX8_faultOf_X8_isRight : GoodIn wsX8_faultOf (wsV RX8 56 RX8 yX8_isRight wsX8_isRight) := goodIn_app (goodIn_r _ [123, 124, 125, 108] rfl (by decide +kernel)) ggX8_faultOf_X8_isRight
set_option maxRecDepth 20000 in
theorem ggX8_takeItem_X8_mayBegin : GoodIn wsX8_takeItem wsX8_mayBegin := goodIn_r _ [8, 9, 10, 11, 114, 115, 116, 117, 118, 119, 120] rfl (by decide +kernel)
set_option maxRecDepth 20000 in
theorem gX8_takeItem_X8_mayBegin : GoodIn wsX8_takeItem (wsV RX8 59 RX8 yX8_mayBegin wsX8_mayBegin) := goodIn_app (goodIn_r _ [4, 5, 6, 7] rfl (by decide +kernel)) ggX8_takeItem_X8_mayBegin
set_option maxRecDepth 20000 in
theorem ggX8_takeItem_X9_advance : GoodIn wsX8_takeItem wsX9_advance := goodIn_r _ [16, 17, 18, 19, 20, 21, 22, 23, 24, 25, 26, 27, 28, 29, 30, 15, 31, 32, 33, 34, 35, 36, 37, 38, 39, 40, 41, 42, 43, 44, 45, 46, 47, 48, 49, 50, 51, 52, 53, 54, 55, 56, 57, 58, 59, 60, 61, 62, 63, 64, 65, 66, 67, 68, 69, 70, 71, 72, 73, 74, 75, 76, 77, 78, 79, 80, 81, 82, 83, 84, 85, 86, 87, 88, 89, 90, 91, 92, 93, 94, 95, 96, 97, 98, 99, 100, 101, 102, 103, 121, 122, 123, 124, 125, 126, 127] rfl (by decide +kernel)
set_option maxRecDepth 20000 in
theorem gX8_takeItem_X9_advance : GoodIn wsX8_takeItem (wsV RX8 43 RX9 yX9_advance wsX9_advance) := goodIn_app (goodIn_r _ [12, 13, 14, 15] rfl (by decide +kernel)) ggX8_takeItem_X9_advance
set_option maxRecDepth 20000 in
theorem ggX8_takeItem_X8_mayFollow : GoodIn wsX8_takeItem wsX8_mayFollow := goodIn_r _ [106, 32, 33, 34] rfl (by decide +kernel)
set_option maxRecDepth 20000 in
theorem gX8_takeItem_X8_mayFollow : GoodIn wsX8_takeItem (va_wsS RX8 66 yX8_mayFollow wsX8_mayFollow) := goodIn_app (goodIn_r _ [104, 105, 7] rfl (by decide +kernel)) ggX8_takeItem_X8_mayFollow
set_option maxRecDepth 20000 in
theorem ggX8_takeItem_X8_addItem : GoodIn wsX8_takeItem wsX8_addItem := goodIn_r _ [110, 111, 10, 11, 9, 112, 113, 114, 115, 116, 117, 118, 119, 120] rfl (by decide +kernel)
set_option maxRecDepth 20000 in
theorem gX8_takeItem_X8_addItem : GoodIn wsX8_takeItem (wsV RX8 70 RX8 yX8_addItem wsX8_addItem) := goodIn_app (goodIn_r _ [107, 108, 109, 7] rfl (by decide +kernel)) ggX8_takeItem_X8_addItem
set_option maxRecDepth 20000 in
theorem ggX8_mayFollow_X10_isWithin : GoodIn wsX8_mayFollow wsX10_isWithin := goodIn_r _ [3] rfl (by decide +kernel)
set_option maxRecDepth 20000 in
theorem gX8_mayFollow_X10_isWithin_n74 : GoodIn wsX8_mayFollow (wsX10_isWithin) := ggX8_mayFollow_X10_isWithin
set_option maxRecDepth 20000 in
theorem ggX8_isRight_X10_isLawful : GoodIn wsX8_isRight wsX10_isLawful := goodIn_r _ [8] rfl (by decide +kernel)
set_option maxRecDepth 20000 in
theorem gX8_isRight_X10_isLawful_n78 : GoodIn wsX8_isRight (wsX10_isLawful) := ggX8_isRight_X10_isLawful
set_option maxRecDepth 20000 in
theorem ggX9_advance_X2_at : GoodIn wsX9_advance wsX2_at := goodIn_r _ [10, 11, 12, 94, 95] rfl (by decide +kernel)
set_option maxRecDepth 20000 in
theorem gX9_advance_X2_at : GoodIn wsX9_advance (wsV RX9 31 RX2 yX2_at wsX2_at) := goodIn_app (goodIn_r _ [6, 7, 8, 9] rfl (by decide +kernel)) ggX9_advance_X2_at
set_option maxRecDepth 20000 in
theorem ggX9_advance_X9_isSmall : GoodIn wsX9_advance wsX9_isSmall := goodIn_r _ [16, 17, 18, 19] rfl (by decide +kernel)
set_option maxRecDepth 20000 in
theorem gX9_advance_X9_isSmall : GoodIn wsX9_advance (va_wsS RX9 35 yX9_isSmall wsX9_isSmall) := goodIn_app (goodIn_r _ [13, 14, 15] rfl (by decide +kernel)) ggX9_advance_X9_isSmall
set_option maxRecDepth 20000 in
theorem ggX9_advance_X9_takeWord : GoodIn wsX9_advance wsX9_takeWord := goodIn_r _ [23, 1, 3, 4, 5, 6, 7, 8, 9, 10, 11, 12, 13, 14, 15, 16, 17, 18, 19, 24, 25, 26, 27, 2, 28, 29, 30, 31, 32, 33, 34, 35, 36, 37, 38, 39, 40, 41, 42, 43, 44, 45, 46, 47, 48, 49, 50, 51, 52, 53, 54, 55, 56, 57, 58, 59, 60, 61, 62, 63, 64, 65, 66, 67, 68, 69, 70, 71, 72, 73, 74, 75, 76, 89, 90, 91, 92, 93, 94, 95] rfl (by decide +kernel)
set_option maxRecDepth 20000 in
theorem gX9_advance_X9_takeWord : GoodIn wsX9_advance (wsV RX9 39 RX9 yX9_takeWord wsX9_takeWord) := goodIn_app (goodIn_r _ [20, 21, 22, 15] rfl (by decide +kernel)) ggX9_advance_X9_takeWord
set_option maxRecDepth 20000 in
theorem ggX9_advance_X9_isDigit : GoodIn wsX9_advance wsX9_isDigit := goodIn_r _ [79, 17, 18, 19] rfl (by decide +kernel)
set_option maxRecDepth 20000 in
theorem gX9_advance_X9_isDigit : GoodIn wsX9_advance (va_wsS RX9 42 yX9_isDigit wsX9_isDigit) := goodIn_app (goodIn_r _ [77, 78, 15] rfl (by decide +kernel)) ggX9_advance_X9_isDigit
set_option maxRecDepth 20000 in
theorem ggX9_advance_X9_takeNumber : GoodIn wsX9_advance wsX9_takeNumber := goodIn_r _ [83, 84, 1, 3, 4, 85, 86, 87, 88, 2, 5, 6, 7, 8, 9, 10, 11, 12, 77, 78, 15, 79, 17, 18, 19, 89, 90, 91, 92, 93, 94, 95] rfl (by decide +kernel)
set_option maxRecDepth 20000 in
theorem gX9_advance_X9_takeNumber : GoodIn wsX9_advance (wsV RX9 45 RX9 yX9_takeNumber wsX9_takeNumber) := goodIn_app (goodIn_r _ [80, 81, 82, 15] rfl (by decide +kernel)) ggX9_advance_X9_takeNumber
set_option maxRecDepth 20000 in
theorem ggX9_takeWord_X2_at : GoodIn wsX9_takeWord wsX2_at := goodIn_r _ [9, 10, 11, 78, 79] rfl (by decide +kernel)
set_option maxRecDepth 20000 in
theorem gX9_takeWord_X2_at : GoodIn wsX9_takeWord (wsV RX9 31 RX2 yX2_at wsX2_at) := goodIn_app (goodIn_r _ [5, 6, 7, 8] rfl (by decide +kernel)) ggX9_takeWord_X2_at
set_option maxRecDepth 20000 in
theorem ggX9_takeWord_X9_isSmall : GoodIn wsX9_takeWord wsX9_isSmall := goodIn_r _ [15, 16, 17, 18] rfl (by decide +kernel)
set_option maxRecDepth 20000 in
theorem gX9_takeWord_X9_isSmall : GoodIn wsX9_takeWord (va_wsS RX9 35 yX9_isSmall wsX9_isSmall) := goodIn_app (goodIn_r _ [12, 13, 14] rfl (by decide +kernel)) ggX9_takeWord_X9_isSmall
set_option maxRecDepth 20000 in
theorem ggX9_takeWord_X9_spells : GoodIn wsX9_takeWord wsX9_spells := goodIn_r _ [22, 1, 23, 2, 24, 25, 26, 27, 28, 29, 30, 31, 32, 33, 34, 35, 36, 37, 38, 39, 40, 41, 42, 43, 44, 45, 46, 47, 48, 49, 50, 51, 52, 53, 54, 55, 56, 57, 58, 59, 60, 61, 62, 63, 64, 65, 66, 67, 68, 69, 70, 71, 72, 5, 6, 7, 8, 9, 10, 11, 73, 74, 75, 76, 77, 78, 79] rfl (by decide +kernel)
set_option maxRecDepth 20000 in
theorem gX9_takeWord_X9_spells : GoodIn wsX9_takeWord (wsV RX9 50 RX9 yX9_spells wsX9_spells) := goodIn_app (goodIn_r _ [19, 20, 21, 14] rfl (by decide +kernel)) ggX9_takeWord_X9_spells
set_option maxRecDepth 20000 in
theorem ggX9_spells_J0_length_8abf5 : GoodIn wsX9_spells wsJ0_length_8abf5 := goodIn_r _ [8, 9, 10, 11, 12, 7, 13, 14, 15] rfl (by decide +kernel)
set_option maxRecDepth 20000 in
theorem gX9_spells_J0_length_8abf5 : GoodIn wsX9_spells (wsV RX9 60 RJ0 yJ0_length_8abf5 wsJ0_length_8abf5) := goodIn_app (goodIn_r _ [4, 5, 6, 7] rfl (by decide +kernel)) ggX9_spells_J0_length_8abf5
set_option maxRecDepth 20000 in
theorem ggX9_spells_J0_charAt_5068e : GoodIn wsX9_spells wsJ0_charAt_5068e := goodIn_r _ [19, 9, 20, 21, 22, 7, 23, 14, 15, 24, 25, 26, 27, 28, 29, 30, 31, 32, 33, 34, 35, 36, 37, 38, 39, 40, 41, 42, 43, 44, 45, 46, 47, 48, 49, 50, 51, 52] rfl (by decide +kernel)
set_option maxRecDepth 20000 in
theorem gX9_spells_J0_charAt_5068e : GoodIn wsX9_spells (wsV RX9 65 RJ0 yJ0_charAt_5068e wsJ0_charAt_5068e) := goodIn_app (goodIn_r _ [16, 17, 18, 7] rfl (by decide +kernel)) ggX9_spells_J0_charAt_5068e
set_option maxRecDepth 20000 in
theorem ggX9_spells_X2_at : GoodIn wsX9_spells wsX2_at := goodIn_r _ [57, 58, 59, 65, 66] rfl (by decide +kernel)
set_option maxRecDepth 20000 in
theorem gX9_spells_X2_at : GoodIn wsX9_spells (wsV RX9 31 RX2 yX2_at wsX2_at) := goodIn_app (goodIn_r _ [53, 54, 55, 56] rfl (by decide +kernel)) ggX9_spells_X2_at
set_option maxRecDepth 20000 in
theorem ggX9_takeNumber_X2_at : GoodIn wsX9_takeNumber wsX2_at := goodIn_r _ [15, 16, 17, 30, 31] rfl (by decide +kernel)
set_option maxRecDepth 20000 in
theorem gX9_takeNumber_X2_at : GoodIn wsX9_takeNumber (wsV RX9 31 RX2 yX2_at wsX2_at) := goodIn_app (goodIn_r _ [11, 12, 13, 14] rfl (by decide +kernel)) ggX9_takeNumber_X2_at
set_option maxRecDepth 20000 in
theorem ggX9_takeNumber_X9_isDigit : GoodIn wsX9_takeNumber wsX9_isDigit := goodIn_r _ [21, 22, 23, 24] rfl (by decide +kernel)
set_option maxRecDepth 20000 in
theorem gX9_takeNumber_X9_isDigit : GoodIn wsX9_takeNumber (va_wsS RX9 42 yX9_isDigit wsX9_isDigit) := goodIn_app (goodIn_r _ [18, 19, 20] rfl (by decide +kernel)) ggX9_takeNumber_X9_isDigit
set_option maxRecDepth 20000 in
theorem ggX9_isSmall_X10_isWithin : GoodIn wsX9_isSmall wsX10_isWithin := goodIn_r _ [3] rfl (by decide +kernel)
set_option maxRecDepth 20000 in
theorem gX9_isSmall_X10_isWithin_n75 : GoodIn wsX9_isSmall (wsX10_isWithin) := ggX9_isSmall_X10_isWithin
set_option maxRecDepth 20000 in
theorem ggX9_isDigit_X10_isWithin : GoodIn wsX9_isDigit wsX10_isWithin := goodIn_r _ [3] rfl (by decide +kernel)
set_option maxRecDepth 20000 in
theorem gX9_isDigit_X10_isWithin_n75 : GoodIn wsX9_isDigit (wsX10_isWithin) := ggX9_isDigit_X10_isWithin
set_option maxRecDepth 20000 in
theorem ggX10_init_X2_init : GoodIn wsX10_init wsX2_init := goodIn_r _ [42, 43, 2, 3, 44, 45, 46, 132, 133] rfl (by decide +kernel)
set_option maxRecDepth 20000 in
theorem gX10_init_X2_init_n11 : GoodIn wsX10_init (wsX2_init) := ggX10_init_X2_init
set_option maxRecDepth 20000 in
theorem ggX10_init_X8_init : GoodIn wsX10_init wsX8_init := goodIn_r _ [49, 50, 2, 3, 44, 51, 52, 53, 54, 55, 56, 57, 58, 59, 60, 61, 62, 63, 64, 65, 66, 67, 68, 69, 144, 145, 146, 147, 148, 149, 150, 174, 175, 176, 177, 178] rfl (by decide +kernel)
set_option maxRecDepth 20000 in
theorem gX10_init_X8_init : GoodIn wsX10_init (wsX8_init) := ggX10_init_X8_init
set_option maxRecDepth 20000 in
theorem ggX10_init_X7_init : GoodIn wsX10_init wsX7_init := goodIn_r _ [71, 72, 2, 3, 44, 73, 151] rfl (by decide +kernel)
set_option maxRecDepth 20000 in
theorem gX10_init_X7_init_n27 : GoodIn wsX10_init (wsX7_init) := ggX10_init_X7_init
set_option maxRecDepth 20000 in
theorem ggX10_init_X4_init : GoodIn wsX10_init wsX4_init := goodIn_r _ [75, 76, 2, 3, 44, 77, 78, 79, 152, 153, 154] rfl (by decide +kernel)
set_option maxRecDepth 20000 in
theorem gX10_init_X4_init_n34 : GoodIn wsX10_init (wsX4_init) := ggX10_init_X4_init
set_option maxRecDepth 20000 in
theorem ggX10_init_X1_init : GoodIn wsX10_init wsX1_init := goodIn_r _ [81, 82, 2, 3, 44, 83, 84, 85, 155, 156] rfl (by decide +kernel)
set_option maxRecDepth 20000 in
theorem gX10_init_X1_init_n41 : GoodIn wsX10_init (wsX1_init) := ggX10_init_X1_init
set_option maxRecDepth 20000 in
theorem ggX10_init_X3_init : GoodIn wsX10_init wsX3_init := goodIn_r _ [87, 88, 2, 3, 89, 90, 91, 92, 93, 94, 95, 157, 158, 159, 160, 161, 162, 163] rfl (by decide +kernel)
set_option maxRecDepth 20000 in
theorem gX10_init_X3_init_n48 : GoodIn wsX10_init (wsX3_init) := ggX10_init_X3_init
set_option maxRecDepth 20000 in
theorem ggX10_init_X6_init : GoodIn wsX10_init wsX6_init := goodIn_r _ [97, 98, 2, 3, 44, 99, 84, 100, 101, 164, 165, 166] rfl (by decide +kernel)
set_option maxRecDepth 20000 in
theorem gX10_init_X6_init_n55 : GoodIn wsX10_init (wsX6_init) := ggX10_init_X6_init
set_option maxRecDepth 20000 in
theorem ggX10_init_X0_init : GoodIn wsX10_init wsX0_init := goodIn_r _ [103, 104, 2, 3, 44, 105, 106, 107, 108, 167, 168, 169, 170] rfl (by decide +kernel)
set_option maxRecDepth 20000 in
theorem gX10_init_X0_init_n62 : GoodIn wsX10_init (wsX0_init) := ggX10_init_X0_init
set_option maxRecDepth 20000 in
theorem ggX10_init_X5_init : GoodIn wsX10_init wsX5_init := goodIn_r _ [110, 111, 2, 3, 112, 113, 114, 171, 172, 173] rfl (by decide +kernel)
set_option maxRecDepth 20000 in
theorem gX10_init_X5_init_n69 : GoodIn wsX10_init (wsX5_init) := ggX10_init_X5_init
set_option maxRecDepth 20000 in
theorem ggX10_init_X7_begin : GoodIn wsX10_init wsX7_begin := goodIn_r _ [118, 73, 119, 120, 121, 122, 123, 124, 125, 126, 14, 127, 128, 129, 130, 131, 151, 144, 145, 146, 147, 148, 149, 150] rfl (by decide +kernel)
set_option maxRecDepth 20000 in
theorem gX10_init_X7_begin : GoodIn wsX10_init (wsV RX10 78 RX7 yX7_begin wsX7_begin) := goodIn_app (goodIn_r _ [115, 116, 117, 14] rfl (by decide +kernel)) ggX10_init_X7_begin
set_option maxRecDepth 20000 in
theorem ggX10_type_X10_isWithin : GoodIn wsX10_type wsX10_isWithin := goodIn_r _ [6] rfl (by decide +kernel)
set_option maxRecDepth 20000 in
theorem gX10_type_X10_isWithin : GoodIn wsX10_type (va_wsS RX10 82 yX10_isWithin wsX10_isWithin) := goodIn_app (goodIn_r _ [3, 4, 5] rfl (by decide +kernel)) ggX10_type_X10_isWithin
set_option maxRecDepth 20000 in
theorem ggX10_type_X2_append : GoodIn wsX10_type wsX2_append := goodIn_r _ [11, 12, 13, 24, 25] rfl (by decide +kernel)
set_option maxRecDepth 20000 in
theorem gX10_type_X2_append : GoodIn wsX10_type (wsV RX10 86 RX2 yX2_append wsX2_append) := goodIn_app (goodIn_r _ [7, 8, 9, 10] rfl (by decide +kernel)) ggX10_type_X2_append
set_option maxRecDepth 20000 in
theorem ggX10_file_X8_faultOf : GoodIn wsX10_file wsX8_faultOf := goodIn_r _ [15, 16, 17, 18, 19, 20, 21, 22, 23, 24, 25, 26, 27, 28, 29, 30, 31, 32, 33, 34, 35, 36, 37, 38, 39, 40, 41, 42, 43, 44, 45, 46, 47, 48, 49, 50, 51, 52, 53, 54, 55, 56, 57, 58, 59, 60, 61, 62, 63, 64, 65, 66, 67, 68, 69, 70, 71, 72, 73, 74, 75, 76, 77, 78, 79, 80, 81, 82, 83, 84, 85, 86, 87, 88, 89, 90, 91, 92, 93, 94, 95, 96, 97, 98, 99, 100, 101, 102, 103, 104, 105, 106, 107, 108, 109, 110, 111, 112, 113, 114, 115, 116, 117, 118, 119, 120, 121, 122, 14, 123, 124, 125, 126, 127, 128, 129, 130, 131, 132, 133, 134, 135, 136, 137, 138, 139, 140, 141, 142, 186, 187, 188, 189, 190, 191, 192, 193, 194, 195, 196, 197, 184, 185] rfl (by decide +kernel)
set_option maxRecDepth 20000 in
theorem gX10_file_X8_faultOf : GoodIn wsX10_file (wsV RX10 93 RX8 yX8_faultOf wsX8_faultOf) := goodIn_app (goodIn_r _ [11, 12, 13, 14] rfl (by decide +kernel)) ggX10_file_X8_faultOf
set_option maxRecDepth 20000 in
theorem ggX10_file_X7_begin : GoodIn wsX10_file wsX7_begin := goodIn_r _ [147, 148, 149, 150, 151, 152, 153, 154, 155, 156, 146, 157, 158, 159, 160, 161, 198, 186, 187, 188, 189, 190, 191, 192] rfl (by decide +kernel)
set_option maxRecDepth 20000 in
theorem gX10_file_X7_begin : GoodIn wsX10_file (wsV RX10 78 RX7 yX7_begin wsX7_begin) := goodIn_app (goodIn_r _ [143, 144, 145, 146] rfl (by decide +kernel)) ggX10_file_X7_begin
set_option maxRecDepth 20000 in
theorem ggX10_file_X1_drop : GoodIn wsX10_file wsX1_drop := goodIn_r _ [166, 167, 199, 200] rfl (by decide +kernel)
set_option maxRecDepth 20000 in
theorem gX10_file_X1_drop : GoodIn wsX10_file (wsV RX10 101 RX1 yX1_drop wsX1_drop) := goodIn_app (goodIn_r _ [162, 163, 164, 165] rfl (by decide +kernel)) ggX10_file_X1_drop
set_option maxRecDepth 20000 in
theorem ggX10_reads_X10_lookToRead : GoodIn wsX10_reads wsX10_lookToRead := goodIn_r _ [9, 1, 10, 11, 12, 13, 8, 14, 15, 16, 17, 18, 19, 20, 21, 22, 23, 24, 25, 26, 27, 28, 29, 30, 31, 32, 33, 34, 35, 36, 37, 38, 39, 40, 41, 42, 43, 44, 45, 46, 47, 48, 49, 50, 51, 52, 53, 54, 55, 56, 57, 58, 59, 60, 61, 62, 63, 64, 65, 66, 67, 68, 69, 70, 71, 72, 73, 74, 75, 76, 77, 78, 79, 80, 81, 82, 83, 84, 85, 86, 87, 88, 89, 90, 91, 92, 93, 94, 95, 96, 97, 98, 99, 100, 101, 102] rfl (by decide +kernel)
set_option maxRecDepth 20000 in
theorem gX10_reads_X10_lookToRead : GoodIn wsX10_reads (wsV RX10 107 RX10 yX10_lookToRead wsX10_lookToRead) := goodIn_app (goodIn_r _ [5, 6, 7, 8] rfl (by decide +kernel)) ggX10_reads_X10_lookToRead
set_option maxRecDepth 20000 in
theorem ggX10_writes_X10_isGroup : GoodIn wsX10_writes wsX10_isGroup := goodIn_r _ [11, 12, 13, 10, 14] rfl (by decide +kernel)
set_option maxRecDepth 20000 in
theorem gX10_writes_X10_isGroup : GoodIn wsX10_writes (va_wsS RX10 117 yX10_isGroup wsX10_isGroup) := goodIn_app (goodIn_r _ [8, 9, 10] rfl (by decide +kernel)) ggX10_writes_X10_isGroup
set_option maxRecDepth 20000 in
theorem ggX10_writes_X10_isWithin : GoodIn wsX10_writes wsX10_isWithin := goodIn_r _ [14] rfl (by decide +kernel)
set_option maxRecDepth 20000 in
theorem gX10_writes_X10_isWithin : GoodIn wsX10_writes (va_wsS RX10 82 yX10_isWithin wsX10_isWithin) := goodIn_app (goodIn_r _ [12, 13, 10] rfl (by decide +kernel)) ggX10_writes_X10_isWithin
set_option maxRecDepth 20000 in
theorem ggX10_writes_X3_look : GoodIn wsX10_writes wsX3_look := goodIn_r _ [19, 20, 21, 22, 23, 24, 25, 26, 27, 28, 29, 30, 31, 32, 33, 34, 35, 36, 37, 38, 39, 40, 41, 42, 43, 44, 45, 46, 47, 48, 49, 50, 51, 52, 53, 54, 55, 56, 57, 58, 59, 60, 61, 62, 63, 64, 65, 66, 67, 68, 69, 70, 71, 72, 18, 73, 74, 75, 76, 77, 119, 120, 121, 122, 123, 124, 125, 126] rfl (by decide +kernel)
set_option maxRecDepth 20000 in
theorem gX10_writes_X3_look : GoodIn wsX10_writes (wsV RX10 120 RX3 yX3_look wsX3_look) := goodIn_app (goodIn_r _ [15, 16, 17, 18] rfl (by decide +kernel)) ggX10_writes_X3_look
set_option maxRecDepth 20000 in
theorem ggX10_writes_X3_refusal : GoodIn wsX10_writes wsX3_refusal := goodIn_r _ [81, 20, 22, 24, 119, 120, 121, 122, 123, 124, 125] rfl (by decide +kernel)
set_option maxRecDepth 20000 in
theorem gX10_writes_X3_refusal : GoodIn wsX10_writes (wsV RX10 127 RX3 yX3_refusal wsX3_refusal) := goodIn_app (goodIn_r _ [78, 79, 80, 18] rfl (by decide +kernel)) ggX10_writes_X3_refusal
set_option maxRecDepth 20000 in
theorem ggX10_writes_X4_remember : GoodIn wsX10_writes wsX4_remember := goodIn_r _ [86, 87, 88, 89, 90, 91, 27, 92, 93, 94, 95, 34, 96, 36, 97, 98, 99, 100, 127, 128, 129, 126] rfl (by decide +kernel)
set_option maxRecDepth 20000 in
theorem gX10_writes_X4_remember : GoodIn wsX10_writes (wsV RX10 131 RX4 yX4_remember wsX4_remember) := goodIn_app (goodIn_r _ [82, 83, 84, 85] rfl (by decide +kernel)) ggX10_writes_X4_remember
set_option maxRecDepth 20000 in
theorem ggX10_writes_X7_renew : GoodIn wsX10_writes wsX7_renew := goodIn_r _ [104, 36, 57, 32, 33, 34, 35, 105, 106, 107, 108, 126] rfl (by decide +kernel)
set_option maxRecDepth 20000 in
theorem gX10_writes_X7_renew : GoodIn wsX10_writes (wsV RX10 141 RX7 yX7_renew wsX7_renew) := goodIn_app (goodIn_r _ [101, 102, 103, 34] rfl (by decide +kernel)) ggX10_writes_X7_renew
set_option maxRecDepth 20000 in
theorem ggX10_mends_X10_lookToRead : GoodIn wsX10_mends wsX10_lookToRead := goodIn_r _ [12, 3, 2, 13, 14, 15, 11, 16, 17, 18, 19, 20, 21, 22, 23, 24, 25, 26, 27, 28, 29, 30, 31, 32, 33, 34, 35, 36, 37, 38, 39, 40, 41, 42, 43, 44, 45, 46, 47, 48, 49, 50, 51, 52, 53, 54, 55, 56, 57, 58, 59, 60, 61, 62, 63, 64, 65, 66, 67, 68, 69, 70, 71, 72, 73, 74, 75, 76, 77, 78, 79, 80, 81, 82, 83, 84, 85, 86, 114, 115, 116, 117, 118, 119, 120, 121, 122, 123, 124, 125, 126, 127, 128, 129, 130, 131] rfl (by decide +kernel)
set_option maxRecDepth 20000 in
theorem gX10_mends_X10_lookToRead : GoodIn wsX10_mends (wsV RX10 107 RX10 yX10_lookToRead wsX10_lookToRead) := goodIn_app (goodIn_r _ [8, 9, 10, 11] rfl (by decide +kernel)) ggX10_mends_X10_lookToRead
set_option maxRecDepth 20000 in
theorem ggX10_mends_X4_remember : GoodIn wsX10_mends wsX4_remember := goodIn_r _ [91, 92, 93, 94, 95, 96, 32, 97, 98, 99, 100, 39, 101, 41, 102, 103, 104, 105, 132, 133, 134, 131] rfl (by decide +kernel)
set_option maxRecDepth 20000 in
theorem gX10_mends_X4_remember : GoodIn wsX10_mends (wsV RX10 131 RX4 yX4_remember wsX4_remember) := goodIn_app (goodIn_r _ [87, 88, 89, 90] rfl (by decide +kernel)) ggX10_mends_X4_remember
set_option maxRecDepth 20000 in
theorem ggX10_mends_X7_renew : GoodIn wsX10_mends wsX7_renew := goodIn_r _ [109, 41, 62, 37, 38, 39, 40, 110, 111, 112, 113, 131] rfl (by decide +kernel)
set_option maxRecDepth 20000 in
theorem gX10_mends_X7_renew : GoodIn wsX10_mends (wsV RX10 141 RX7 yX7_renew wsX7_renew) := goodIn_app (goodIn_r _ [106, 107, 108, 39] rfl (by decide +kernel)) ggX10_mends_X7_renew
set_option maxRecDepth 20000 in
theorem ggX10_votes_X10_isGroup : GoodIn wsX10_votes wsX10_isGroup := goodIn_r _ [12, 13, 14, 11, 15] rfl (by decide +kernel)
set_option maxRecDepth 20000 in
theorem gX10_votes_X10_isGroup : GoodIn wsX10_votes (va_wsS RX10 117 yX10_isGroup wsX10_isGroup) := goodIn_app (goodIn_r _ [9, 10, 11] rfl (by decide +kernel)) ggX10_votes_X10_isGroup
set_option maxRecDepth 20000 in
theorem ggX10_votes_X10_isCopy : GoodIn wsX10_votes wsX10_isCopy := goodIn_r _ [19, 1, 20, 21, 22, 23, 24, 25, 13, 14, 11, 15, 144, 145, 146, 147, 148, 149, 150, 151, 152, 153, 161] rfl (by decide +kernel)
set_option maxRecDepth 20000 in
theorem gX10_votes_X10_isCopy : GoodIn wsX10_votes (wsV RX10 145 RX10 yX10_isCopy wsX10_isCopy) := goodIn_app (goodIn_r _ [16, 17, 18, 11] rfl (by decide +kernel)) ggX10_votes_X10_isCopy
set_option maxRecDepth 20000 in
theorem ggX10_votes_X10_isWithin : GoodIn wsX10_votes wsX10_isWithin := goodIn_r _ [15] rfl (by decide +kernel)
set_option maxRecDepth 20000 in
theorem gX10_votes_X10_isWithin : GoodIn wsX10_votes (va_wsS RX10 82 yX10_isWithin wsX10_isWithin) := goodIn_app (goodIn_r _ [13, 14, 11] rfl (by decide +kernel)) ggX10_votes_X10_isWithin
set_option maxRecDepth 20000 in
theorem ggX10_votes_X7_configurations : GoodIn wsX10_votes wsX7_configurations := goodIn_r _ [29, 25, 161] rfl (by decide +kernel)
set_option maxRecDepth 20000 in
theorem gX10_votes_X7_configurations : GoodIn wsX10_votes (wsV RX10 148 RX7 yX7_configurations wsX7_configurations) := goodIn_app (goodIn_r _ [26, 27, 28, 23] rfl (by decide +kernel)) ggX10_votes_X7_configurations
set_option maxRecDepth 20000 in
theorem ggX10_votes_X3_look : GoodIn wsX10_votes wsX3_look := goodIn_r _ [34, 35, 36, 37, 38, 39, 40, 41, 42, 43, 44, 45, 46, 21, 22, 23, 24, 25, 47, 48, 49, 50, 51, 52, 53, 54, 55, 56, 57, 58, 59, 60, 61, 62, 63, 64, 65, 66, 67, 68, 69, 70, 71, 72, 73, 74, 75, 76, 77, 78, 79, 80, 81, 82, 33, 83, 84, 85, 86, 87, 154, 155, 156, 157, 158, 159, 160, 161] rfl (by decide +kernel)
set_option maxRecDepth 20000 in
theorem gX10_votes_X3_look : GoodIn wsX10_votes (wsV RX10 120 RX3 yX3_look wsX3_look) := goodIn_app (goodIn_r _ [30, 31, 32, 33] rfl (by decide +kernel)) ggX10_votes_X3_look
set_option maxRecDepth 20000 in
theorem ggX10_votes_X7_total : GoodIn wsX10_votes wsX7_total := goodIn_r _ [91, 92, 93, 94, 23, 95, 25, 96, 64, 65, 66, 67, 21, 22, 24, 68, 69, 70, 71, 161] rfl (by decide +kernel)
set_option maxRecDepth 20000 in
theorem gX10_votes_X7_total : GoodIn wsX10_votes (wsV RX10 151 RX7 yX7_total wsX7_total) := goodIn_app (goodIn_r _ [88, 89, 90, 23] rfl (by decide +kernel)) ggX10_votes_X7_total
set_option maxRecDepth 20000 in
theorem ggX10_votes_X7_votesOf : GoodIn wsX10_votes wsX7_votesOf := goodIn_r _ [71, 25, 161] rfl (by decide +kernel)
set_option maxRecDepth 20000 in
theorem gX10_votes_X7_votesOf : GoodIn wsX10_votes (wsV RX10 154 RX7 yX7_votesOf wsX7_votesOf) := goodIn_app (goodIn_r _ [97, 69, 70, 23] rfl (by decide +kernel)) ggX10_votes_X7_votesOf
set_option maxRecDepth 20000 in
theorem ggX10_votes_X10_isLawful : GoodIn wsX10_votes wsX10_isLawful := goodIn_r _ [100] rfl (by decide +kernel)
set_option maxRecDepth 20000 in
theorem gX10_votes_X10_isLawful : GoodIn wsX10_votes (va_wsS RX10 158 yX10_isLawful wsX10_isLawful) := goodIn_app (goodIn_r _ [98, 99, 11] rfl (by decide +kernel)) ggX10_votes_X10_isLawful
set_option maxRecDepth 20000 in
theorem ggX10_votes_X3_refusal : GoodIn wsX10_votes wsX3_refusal := goodIn_r _ [104, 35, 37, 39, 154, 155, 156, 157, 158, 159, 160] rfl (by decide +kernel)
set_option maxRecDepth 20000 in
theorem gX10_votes_X3_refusal : GoodIn wsX10_votes (wsV RX10 127 RX3 yX3_refusal wsX3_refusal) := goodIn_app (goodIn_r _ [101, 102, 103, 33] rfl (by decide +kernel)) ggX10_votes_X3_refusal
set_option maxRecDepth 20000 in
theorem ggX10_votes_X4_remember : GoodIn wsX10_votes wsX4_remember := goodIn_r _ [109, 110, 111, 112, 113, 114, 42, 115, 116, 117, 118, 23, 119, 25, 120, 121, 122, 123, 162, 163, 164, 161] rfl (by decide +kernel)
set_option maxRecDepth 20000 in
theorem gX10_votes_X4_remember : GoodIn wsX10_votes (wsV RX10 131 RX4 yX4_remember wsX4_remember) := goodIn_app (goodIn_r _ [105, 106, 107, 108] rfl (by decide +kernel)) ggX10_votes_X4_remember
set_option maxRecDepth 20000 in
theorem ggX10_votes_X7_addLike : GoodIn wsX10_votes wsX7_addLike := goodIn_r _ [127, 25, 120, 121, 122, 123, 161] rfl (by decide +kernel)
set_option maxRecDepth 20000 in
theorem gX10_votes_X7_addLike : GoodIn wsX10_votes (wsV RX10 161 RX7 yX7_addLike wsX7_addLike) := goodIn_app (goodIn_r _ [124, 125, 126, 23] rfl (by decide +kernel)) ggX10_votes_X7_addLike
set_option maxRecDepth 20000 in
theorem ggX10_votes_X7_setNeeds : GoodIn wsX10_votes wsX7_setNeeds := goodIn_r _ [131, 25, 161] rfl (by decide +kernel)
set_option maxRecDepth 20000 in
theorem gX10_votes_X7_setNeeds : GoodIn wsX10_votes (wsV RX10 164 RX7 yX7_setNeeds wsX7_setNeeds) := goodIn_app (goodIn_r _ [128, 129, 130, 23] rfl (by decide +kernel)) ggX10_votes_X7_setNeeds
set_option maxRecDepth 20000 in
theorem ggX10_votes_X7_setVoter : GoodIn wsX10_votes wsX7_setVoter := goodIn_r _ [135, 25, 161] rfl (by decide +kernel)
set_option maxRecDepth 20000 in
theorem gX10_votes_X7_setVoter : GoodIn wsX10_votes (wsV RX10 168 RX7 yX7_setVoter wsX7_setVoter) := goodIn_app (goodIn_r _ [132, 133, 134, 23] rfl (by decide +kernel)) ggX10_votes_X7_setVoter
set_option maxRecDepth 20000 in
theorem ggX10_votes_X7_renew : GoodIn wsX10_votes wsX7_renew := goodIn_r _ [139, 25, 67, 21, 22, 23, 24, 140, 141, 142, 143, 161] rfl (by decide +kernel)
set_option maxRecDepth 20000 in
theorem gX10_votes_X7_renew : GoodIn wsX10_votes (wsV RX10 141 RX7 yX7_renew wsX7_renew) := goodIn_app (goodIn_r _ [136, 137, 138, 23] rfl (by decide +kernel)) ggX10_votes_X7_renew
set_option maxRecDepth 20000 in
theorem ggX10_flips_X10_isCopy : GoodIn wsX10_flips wsX10_isCopy := goodIn_r _ [7, 2, 8, 9, 10, 11, 12, 13, 14, 15, 6, 16, 41, 42, 43, 44, 45, 46, 47, 48, 49, 50, 51] rfl (by decide +kernel)
set_option maxRecDepth 20000 in
theorem gX10_flips_X10_isCopy : GoodIn wsX10_flips (wsV RX10 145 RX10 yX10_isCopy wsX10_isCopy) := goodIn_app (goodIn_r _ [3, 4, 5, 6] rfl (by decide +kernel)) ggX10_flips_X10_isCopy
set_option maxRecDepth 20000 in
theorem ggX10_flips_X4_remember : GoodIn wsX10_flips wsX4_remember := goodIn_r _ [21, 22, 23, 24, 25, 26, 27, 28, 29, 30, 31, 11, 32, 13, 33, 34, 35, 36, 52, 53, 54, 51] rfl (by decide +kernel)
set_option maxRecDepth 20000 in
theorem gX10_flips_X4_remember : GoodIn wsX10_flips (wsV RX10 131 RX4 yX4_remember wsX4_remember) := goodIn_app (goodIn_r _ [17, 18, 19, 20] rfl (by decide +kernel)) ggX10_flips_X4_remember
set_option maxRecDepth 20000 in
theorem ggX10_flips_X7_turn : GoodIn wsX10_flips wsX7_turn := goodIn_r _ [40, 13, 51] rfl (by decide +kernel)
set_option maxRecDepth 20000 in
theorem gX10_flips_X7_turn : GoodIn wsX10_flips (wsV RX10 172 RX7 yX7_turn wsX7_turn) := goodIn_app (goodIn_r _ [37, 38, 39, 11] rfl (by decide +kernel)) ggX10_flips_X7_turn
set_option maxRecDepth 20000 in
theorem ggX10_moves_X10_isCopy : GoodIn wsX10_moves wsX10_isCopy := goodIn_r _ [7, 1, 8, 9, 10, 11, 12, 13, 14, 15, 6, 16, 48, 49, 50, 51, 52, 53, 54, 55, 56, 57, 58] rfl (by decide +kernel)
set_option maxRecDepth 20000 in
theorem gX10_moves_X10_isCopy : GoodIn wsX10_moves (wsV RX10 145 RX10 yX10_isCopy wsX10_isCopy) := goodIn_app (goodIn_r _ [3, 4, 5, 6] rfl (by decide +kernel)) ggX10_moves_X10_isCopy
set_option maxRecDepth 20000 in
theorem ggX10_moves_X10_isGroup : GoodIn wsX10_moves wsX10_isGroup := goodIn_r _ [19, 14, 15, 6, 16] rfl (by decide +kernel)
set_option maxRecDepth 20000 in
theorem gX10_moves_X10_isGroup : GoodIn wsX10_moves (va_wsS RX10 117 yX10_isGroup wsX10_isGroup) := goodIn_app (goodIn_r _ [17, 18, 6] rfl (by decide +kernel)) ggX10_moves_X10_isGroup
set_option maxRecDepth 20000 in
theorem ggX10_moves_X7_groupOf : GoodIn wsX10_moves wsX7_groupOf := goodIn_r _ [23, 13, 58] rfl (by decide +kernel)
set_option maxRecDepth 20000 in
theorem gX10_moves_X7_groupOf : GoodIn wsX10_moves (wsV RX10 175 RX7 yX7_groupOf wsX7_groupOf) := goodIn_app (goodIn_r _ [20, 21, 22, 11] rfl (by decide +kernel)) ggX10_moves_X7_groupOf
set_option maxRecDepth 20000 in
theorem ggX10_moves_X4_remember : GoodIn wsX10_moves wsX4_remember := goodIn_r _ [28, 29, 30, 31, 32, 33, 34, 35, 36, 37, 38, 11, 39, 13, 40, 41, 42, 43, 59, 60, 61, 58] rfl (by decide +kernel)
set_option maxRecDepth 20000 in
theorem gX10_moves_X4_remember : GoodIn wsX10_moves (wsV RX10 131 RX4 yX4_remember wsX4_remember) := goodIn_app (goodIn_r _ [24, 25, 26, 27] rfl (by decide +kernel)) ggX10_moves_X4_remember
set_option maxRecDepth 20000 in
theorem ggX10_moves_X7_setGroup : GoodIn wsX10_moves wsX7_setGroup := goodIn_r _ [47, 13, 58] rfl (by decide +kernel)
set_option maxRecDepth 20000 in
theorem gX10_moves_X7_setGroup : GoodIn wsX10_moves (wsV RX10 178 RX7 yX7_setGroup wsX7_setGroup) := goodIn_app (goodIn_r _ [44, 45, 46, 11] rfl (by decide +kernel)) ggX10_moves_X7_setGroup
set_option maxRecDepth 20000 in
theorem ggX10_undo_X4_restore : GoodIn wsX10_undo wsX4_restore := goodIn_r _ [8, 9, 10, 11, 12, 13, 14, 15, 16, 17, 18, 19, 20, 21, 32, 33, 34, 35] rfl (by decide +kernel)
set_option maxRecDepth 20000 in
theorem gX10_undo_X4_restore : GoodIn wsX10_undo (wsV RX10 182 RX4 yX4_restore wsX4_restore) := goodIn_app (goodIn_r _ [4, 5, 6, 7] rfl (by decide +kernel)) ggX10_undo_X4_restore
set_option maxRecDepth 20000 in
theorem ggX10_copy_X10_isCopy : GoodIn wsX10_copy wsX10_isCopy := goodIn_r _ [6, 1, 7, 8, 9, 10, 11, 12, 13, 14, 5, 15, 48, 49, 50, 51, 52, 53, 54, 55, 56, 57, 58] rfl (by decide +kernel)
set_option maxRecDepth 20000 in
theorem gX10_copy_X10_isCopy : GoodIn wsX10_copy (wsV RX10 145 RX10 yX10_isCopy wsX10_isCopy) := goodIn_app (goodIn_r _ [2, 3, 4, 5] rfl (by decide +kernel)) ggX10_copy_X10_isCopy
set_option maxRecDepth 20000 in
theorem ggX10_copy_X7_isUp : GoodIn wsX10_copy wsX7_isUp := goodIn_r _ [19, 12, 58] rfl (by decide +kernel)
set_option maxRecDepth 20000 in
theorem gX10_copy_X7_isUp : GoodIn wsX10_copy (wsV RX10 186 RX7 yX7_isUp wsX7_isUp) := goodIn_app (goodIn_r _ [16, 17, 18, 10] rfl (by decide +kernel)) ggX10_copy_X7_isUp
set_option maxRecDepth 20000 in
theorem ggX10_copy_X7_groupOf : GoodIn wsX10_copy wsX7_groupOf := goodIn_r _ [23, 12, 58] rfl (by decide +kernel)
set_option maxRecDepth 20000 in
theorem gX10_copy_X7_groupOf : GoodIn wsX10_copy (wsV RX10 175 RX7 yX7_groupOf wsX7_groupOf) := goodIn_app (goodIn_r _ [20, 21, 22, 10] rfl (by decide +kernel)) ggX10_copy_X7_groupOf
set_option maxRecDepth 20000 in
theorem ggX10_copy_X7_versionOf : GoodIn wsX10_copy wsX7_versionOf := goodIn_r _ [27, 12, 58] rfl (by decide +kernel)
set_option maxRecDepth 20000 in
theorem gX10_copy_X7_versionOf : GoodIn wsX10_copy (wsV RX10 189 RX7 yX7_versionOf wsX7_versionOf) := goodIn_app (goodIn_r _ [24, 25, 26, 10] rfl (by decide +kernel)) ggX10_copy_X7_versionOf
set_option maxRecDepth 20000 in
theorem ggX10_copy_X7_valueOf : GoodIn wsX10_copy wsX7_valueOf := goodIn_r _ [31, 12, 58] rfl (by decide +kernel)
set_option maxRecDepth 20000 in
theorem gX10_copy_X7_valueOf : GoodIn wsX10_copy (wsV RX10 192 RX7 yX7_valueOf wsX7_valueOf) := goodIn_app (goodIn_r _ [28, 29, 30, 10] rfl (by decide +kernel)) ggX10_copy_X7_valueOf
set_option maxRecDepth 20000 in
theorem ggX10_copy_X7_configurationOf : GoodIn wsX10_copy wsX7_configurationOf := goodIn_r _ [35, 12, 58] rfl (by decide +kernel)
set_option maxRecDepth 20000 in
theorem gX10_copy_X7_configurationOf : GoodIn wsX10_copy (wsV RX10 195 RX7 yX7_configurationOf wsX7_configurationOf) := goodIn_app (goodIn_r _ [32, 33, 34, 10] rfl (by decide +kernel)) ggX10_copy_X7_configurationOf
set_option maxRecDepth 20000 in
theorem ggX10_copy_X7_newest : GoodIn wsX10_copy wsX7_newest := goodIn_r _ [39, 12, 58] rfl (by decide +kernel)
set_option maxRecDepth 20000 in
theorem gX10_copy_X7_newest : GoodIn wsX10_copy (wsV RX10 198 RX7 yX7_newest wsX7_newest) := goodIn_app (goodIn_r _ [36, 37, 38, 10] rfl (by decide +kernel)) ggX10_copy_X7_newest
set_option maxRecDepth 20000 in
theorem ggX10_copy_X7_votesOf : GoodIn wsX10_copy wsX7_votesOf := goodIn_r _ [43, 12, 58] rfl (by decide +kernel)
set_option maxRecDepth 20000 in
theorem gX10_copy_X7_votesOf : GoodIn wsX10_copy (wsV RX10 154 RX7 yX7_votesOf wsX7_votesOf) := goodIn_app (goodIn_r _ [40, 41, 42, 10] rfl (by decide +kernel)) ggX10_copy_X7_votesOf
set_option maxRecDepth 20000 in
theorem ggX10_copy_X7_isWitness : GoodIn wsX10_copy wsX7_isWitness := goodIn_r _ [47, 12, 58] rfl (by decide +kernel)
set_option maxRecDepth 20000 in
theorem gX10_copy_X7_isWitness : GoodIn wsX10_copy (wsV RX10 201 RX7 yX7_isWitness wsX7_isWitness) := goodIn_app (goodIn_r _ [44, 45, 46, 10] rfl (by decide +kernel)) ggX10_copy_X7_isWitness
set_option maxRecDepth 20000 in
theorem ggX10_group_X10_isGroup : GoodIn wsX10_group wsX10_isGroup := goodIn_r _ [13, 14, 15, 12, 16] rfl (by decide +kernel)
set_option maxRecDepth 20000 in
theorem gX10_group_X10_isGroup : GoodIn wsX10_group (va_wsS RX10 117 yX10_isGroup wsX10_isGroup) := goodIn_app (goodIn_r _ [10, 11, 12] rfl (by decide +kernel)) ggX10_group_X10_isGroup
set_option maxRecDepth 20000 in
theorem ggX10_group_X3_look : GoodIn wsX10_group wsX3_look := goodIn_r _ [21, 22, 23, 24, 25, 26, 27, 28, 29, 30, 31, 32, 33, 34, 35, 36, 37, 38, 39, 40, 41, 42, 43, 44, 45, 46, 47, 48, 49, 50, 51, 52, 53, 54, 55, 56, 57, 58, 59, 60, 61, 62, 63, 64, 65, 66, 67, 68, 69, 70, 71, 72, 73, 74, 20, 75, 76, 77, 78, 79, 102, 103, 104, 105, 106, 107, 108, 109] rfl (by decide +kernel)
set_option maxRecDepth 20000 in
theorem gX10_group_X3_look : GoodIn wsX10_group (wsV RX10 120 RX3 yX3_look wsX3_look) := goodIn_app (goodIn_r _ [17, 18, 19, 20] rfl (by decide +kernel)) ggX10_group_X3_look
set_option maxRecDepth 20000 in
theorem ggX10_group_X3_can : GoodIn wsX10_group wsX3_can := goodIn_r _ [83, 84, 85, 86, 20, 87, 22, 24, 26, 102, 103, 104, 105, 106, 107, 108] rfl (by decide +kernel)
set_option maxRecDepth 20000 in
theorem gX10_group_X3_can : GoodIn wsX10_group (wsV RX10 211 RX3 yX3_can wsX3_can) := goodIn_app (goodIn_r _ [80, 81, 82, 20] rfl (by decide +kernel)) ggX10_group_X3_can
set_option maxRecDepth 20000 in
theorem ggX10_group_X7_configurations : GoodIn wsX10_group wsX7_configurations := goodIn_r _ [91, 38, 109] rfl (by decide +kernel)
set_option maxRecDepth 20000 in
theorem gX10_group_X7_configurations : GoodIn wsX10_group (wsV RX10 148 RX7 yX7_configurations wsX7_configurations) := goodIn_app (goodIn_r _ [88, 89, 90, 36] rfl (by decide +kernel)) ggX10_group_X7_configurations
set_option maxRecDepth 20000 in
theorem ggX10_chance_X10_isWithin : GoodIn wsX10_chance wsX10_isWithin := goodIn_r _ [8] rfl (by decide +kernel)
set_option maxRecDepth 20000 in
theorem gX10_chance_X10_isWithin : GoodIn wsX10_chance (va_wsS RX10 82 yX10_isWithin wsX10_isWithin) := goodIn_app (goodIn_r _ [5, 6, 7] rfl (by decide +kernel)) ggX10_chance_X10_isWithin
set_option maxRecDepth 20000 in
theorem ggX10_chance_X0_begin : GoodIn wsX10_chance wsX0_begin := goodIn_r _ [13, 14, 15, 73, 74, 75, 76] rfl (by decide +kernel)
set_option maxRecDepth 20000 in
theorem gX10_chance_X0_begin : GoodIn wsX10_chance (wsV RX10 214 RX0 yX0_begin wsX0_begin) := goodIn_app (goodIn_r _ [9, 10, 11, 12] rfl (by decide +kernel)) ggX10_chance_X0_begin
set_option maxRecDepth 20000 in
theorem ggX10_chance_X7_copies : GoodIn wsX10_chance wsX7_copies := goodIn_r _ [20, 21, 77] rfl (by decide +kernel)
set_option maxRecDepth 20000 in
theorem gX10_chance_X7_copies : GoodIn wsX10_chance (wsV RX10 216 RX7 yX7_copies wsX7_copies) := goodIn_app (goodIn_r _ [16, 17, 18, 19] rfl (by decide +kernel)) ggX10_chance_X7_copies
set_option maxRecDepth 20000 in
theorem ggX10_chance_X7_newest : GoodIn wsX10_chance wsX7_newest := goodIn_r _ [25, 21, 77] rfl (by decide +kernel)
set_option maxRecDepth 20000 in
theorem gX10_chance_X7_newest : GoodIn wsX10_chance (wsV RX10 198 RX7 yX7_newest wsX7_newest) := goodIn_app (goodIn_r _ [22, 23, 24, 19] rfl (by decide +kernel)) ggX10_chance_X7_newest
set_option maxRecDepth 20000 in
theorem ggX10_chance_X7_votesOf : GoodIn wsX10_chance wsX7_votesOf := goodIn_r _ [29, 21, 77] rfl (by decide +kernel)
set_option maxRecDepth 20000 in
theorem gX10_chance_X7_votesOf : GoodIn wsX10_chance (wsV RX10 154 RX7 yX7_votesOf wsX7_votesOf) := goodIn_app (goodIn_r _ [26, 27, 28, 19] rfl (by decide +kernel)) ggX10_chance_X7_votesOf
set_option maxRecDepth 20000 in
theorem ggX10_chance_X0_join : GoodIn wsX10_chance wsX0_join := goodIn_r _ [33, 15, 34, 35, 36, 37, 14, 73, 74, 75, 76] rfl (by decide +kernel)
set_option maxRecDepth 20000 in
theorem gX10_chance_X0_join : GoodIn wsX10_chance (wsV RX10 219 RX0 yX0_join wsX0_join) := goodIn_app (goodIn_r _ [30, 31, 32, 12] rfl (by decide +kernel)) ggX10_chance_X0_join
set_option maxRecDepth 20000 in
theorem ggX10_chance_X7_need : GoodIn wsX10_chance wsX7_need := goodIn_r _ [41, 42, 43, 44, 19, 45, 21, 46, 47, 48, 49, 77] rfl (by decide +kernel)
set_option maxRecDepth 20000 in
theorem gX10_chance_X7_need : GoodIn wsX10_chance (wsV RX10 222 RX7 yX7_need wsX7_need) := goodIn_app (goodIn_r _ [38, 39, 40, 19] rfl (by decide +kernel)) ggX10_chance_X7_need
set_option maxRecDepth 20000 in
theorem ggX10_chance_X0_reduce : GoodIn wsX10_chance wsX0_reduce := goodIn_r _ [53, 54, 55, 56, 57, 58, 12, 59, 60, 61, 36, 62, 15, 14, 73, 74, 75, 76] rfl (by decide +kernel)
set_option maxRecDepth 20000 in
theorem gX10_chance_X0_reduce : GoodIn wsX10_chance (wsV RX10 225 RX0 yX0_reduce wsX0_reduce) := goodIn_app (goodIn_r _ [50, 51, 52, 12] rfl (by decide +kernel)) ggX10_chance_X0_reduce
set_option maxRecDepth 20000 in
theorem ggX10_least_X10_isWithin : GoodIn wsX10_least wsX10_isWithin := goodIn_r _ [5] rfl (by decide +kernel)
set_option maxRecDepth 20000 in
theorem gX10_least_X10_isWithin : GoodIn wsX10_least (va_wsS RX10 82 yX10_isWithin wsX10_isWithin) := goodIn_app (goodIn_r _ [2, 3, 4] rfl (by decide +kernel)) ggX10_least_X10_isWithin
set_option maxRecDepth 20000 in
theorem ggX10_least_X7_newest : GoodIn wsX10_least wsX7_newest := goodIn_r _ [10, 11, 57] rfl (by decide +kernel)
set_option maxRecDepth 20000 in
theorem gX10_least_X7_newest : GoodIn wsX10_least (wsV RX10 198 RX7 yX7_newest wsX7_newest) := goodIn_app (goodIn_r _ [6, 7, 8, 9] rfl (by decide +kernel)) ggX10_least_X7_newest
set_option maxRecDepth 20000 in
theorem ggX10_least_X7_need : GoodIn wsX10_least wsX7_need := goodIn_r _ [15, 16, 17, 18, 9, 19, 11, 20, 21, 22, 23, 57] rfl (by decide +kernel)
set_option maxRecDepth 20000 in
theorem gX10_least_X7_need : GoodIn wsX10_least (wsV RX10 222 RX7 yX7_need wsX7_need) := goodIn_app (goodIn_r _ [12, 13, 14, 9] rfl (by decide +kernel)) ggX10_least_X7_need
set_option maxRecDepth 20000 in
theorem ggX10_least_X7_sets : GoodIn wsX10_least wsX7_sets := goodIn_r _ [27, 11, 57] rfl (by decide +kernel)
set_option maxRecDepth 20000 in
theorem gX10_least_X7_sets : GoodIn wsX10_least (wsV RX10 234 RX7 yX7_sets wsX7_sets) := goodIn_app (goodIn_r _ [24, 25, 26, 9] rfl (by decide +kernel)) ggX10_least_X7_sets
set_option maxRecDepth 20000 in
theorem ggX10_least_J6_bitCount_0f7a4 : GoodIn wsX10_least wsJ6_bitCount_0f7a4 := goodIn_r _ [31, 32, 33, 34] rfl (by decide +kernel)
set_option maxRecDepth 20000 in
theorem gX10_least_J6_bitCount_0f7a4 : GoodIn wsX10_least (va_wsS RX10 237 yJ6_bitCount_0f7a4 wsJ6_bitCount_0f7a4) := goodIn_app (goodIn_r _ [28, 29, 30] rfl (by decide +kernel)) ggX10_least_J6_bitCount_0f7a4
set_option maxRecDepth 20000 in
theorem ggX10_least_X7_votesOfSet : GoodIn wsX10_least wsX7_votesOfSet := goodIn_r _ [38, 39, 40, 41, 9, 42, 11, 43, 44, 45, 46, 57] rfl (by decide +kernel)
set_option maxRecDepth 20000 in
theorem gX10_least_X7_votesOfSet : GoodIn wsX10_least (wsV RX10 242 RX7 yX7_votesOfSet wsX7_votesOfSet) := goodIn_app (goodIn_r _ [35, 36, 37, 9] rfl (by decide +kernel)) ggX10_least_X7_votesOfSet
set_option maxRecDepth 20000 in
theorem ggX10_best_X10_isWithin : GoodIn wsX10_best wsX10_isWithin := goodIn_r _ [10] rfl (by decide +kernel)
set_option maxRecDepth 20000 in
theorem gX10_best_X10_isWithin : GoodIn wsX10_best (va_wsS RX10 82 yX10_isWithin wsX10_isWithin) := goodIn_app (goodIn_r _ [7, 8, 9] rfl (by decide +kernel)) ggX10_best_X10_isWithin
set_option maxRecDepth 20000 in
theorem ggX10_best_X7_copies : GoodIn wsX10_best wsX7_copies := goodIn_r _ [15, 16, 71] rfl (by decide +kernel)
set_option maxRecDepth 20000 in
theorem gX10_best_X7_copies : GoodIn wsX10_best (wsV RX10 216 RX7 yX7_copies wsX7_copies) := goodIn_app (goodIn_r _ [11, 12, 13, 14] rfl (by decide +kernel)) ggX10_best_X7_copies
set_option maxRecDepth 20000 in
theorem ggX10_best_X5_run : GoodIn wsX10_best wsX5_run := goodIn_r _ [21, 22, 23, 24, 20, 25, 26, 27, 28, 29, 30, 31, 32, 33, 34, 35, 36, 37, 38, 39, 40, 41, 42, 43, 44, 45, 46, 47, 48, 49, 50, 51, 52, 53, 54, 55, 56, 57, 68, 69, 70, 72, 73, 74, 75] rfl (by decide +kernel)
set_option maxRecDepth 20000 in
theorem gX10_best_X5_run : GoodIn wsX10_best (wsV RX10 245 RX5 yX5_run wsX5_run) := goodIn_app (goodIn_r _ [17, 18, 19, 20] rfl (by decide +kernel)) ggX10_best_X5_run
set_option maxRecDepth 20000 in
theorem ggX10_sees_X10_isWithin : GoodIn wsX10_sees wsX10_isWithin := goodIn_r _ [6] rfl (by decide +kernel)
set_option maxRecDepth 20000 in
theorem gX10_sees_X10_isWithin : GoodIn wsX10_sees (va_wsS RX10 82 yX10_isWithin wsX10_isWithin) := goodIn_app (goodIn_r _ [3, 4, 5] rfl (by decide +kernel)) ggX10_sees_X10_isWithin
set_option maxRecDepth 20000 in
theorem ggX10_sees_X6_append : GoodIn wsX10_sees wsX6_append := goodIn_r _ [11, 12, 13, 14, 25, 26, 27] rfl (by decide +kernel)
set_option maxRecDepth 20000 in
theorem gX10_sees_X6_append : GoodIn wsX10_sees (wsV RX10 254 RX6 yX6_append wsX6_append) := goodIn_app (goodIn_r _ [7, 8, 9, 10] rfl (by decide +kernel)) ggX10_sees_X6_append
set_option maxRecDepth 20000 in
theorem ggX10_unseen_X10_isWithin : GoodIn wsX10_unseen wsX10_isWithin := goodIn_r _ [6] rfl (by decide +kernel)
set_option maxRecDepth 20000 in
theorem gX10_unseen_X10_isWithin : GoodIn wsX10_unseen (va_wsS RX10 82 yX10_isWithin wsX10_isWithin) := goodIn_app (goodIn_r _ [3, 4, 5] rfl (by decide +kernel)) ggX10_unseen_X10_isWithin
set_option maxRecDepth 20000 in
theorem ggX10_unseen_X7_sets : GoodIn wsX10_unseen wsX7_sets := goodIn_r _ [11, 12, 60] rfl (by decide +kernel)
set_option maxRecDepth 20000 in
theorem gX10_unseen_X7_sets : GoodIn wsX10_unseen (wsV RX10 234 RX7 yX7_sets wsX7_sets) := goodIn_app (goodIn_r _ [7, 8, 9, 10] rfl (by decide +kernel)) ggX10_unseen_X7_sets
set_option maxRecDepth 20000 in
theorem ggX10_unseen_X6_allows : GoodIn wsX10_unseen wsX6_allows := goodIn_r _ [17, 18, 19, 20, 21, 22, 23, 10, 24, 12, 25, 8, 9, 11, 26, 27, 28, 29, 30, 31, 32, 33, 34, 35, 36, 37, 38, 39, 40, 41, 42, 43, 44, 45, 46, 47, 48, 49, 61, 62, 63, 60] rfl (by decide +kernel)
set_option maxRecDepth 20000 in
theorem gX10_unseen_X6_allows : GoodIn wsX10_unseen (wsV RX10 257 RX6 yX6_allows wsX6_allows) := goodIn_app (goodIn_r _ [13, 14, 15, 16] rfl (by decide +kernel)) ggX10_unseen_X6_allows
set_option maxRecDepth 20000 in
theorem ggX10_keep_X10_isWithin : GoodIn wsX10_keep wsX10_isWithin := goodIn_r _ [6] rfl (by decide +kernel)
set_option maxRecDepth 20000 in
theorem gX10_keep_X10_isWithin : GoodIn wsX10_keep (va_wsS RX10 82 yX10_isWithin wsX10_isWithin) := goodIn_app (goodIn_r _ [3, 4, 5] rfl (by decide +kernel)) ggX10_keep_X10_isWithin
set_option maxRecDepth 20000 in
theorem ggX10_keep_X1_store : GoodIn wsX10_keep wsX1_store := goodIn_r _ [11, 12, 13, 14, 15, 16, 17, 18, 19, 20, 21, 22, 23, 38, 39, 40] rfl (by decide +kernel)
set_option maxRecDepth 20000 in
theorem gX10_keep_X1_store : GoodIn wsX10_keep (wsV RX10 261 RX1 yX1_store wsX1_store) := goodIn_app (goodIn_r _ [7, 8, 9, 10] rfl (by decide +kernel)) ggX10_keep_X1_store
set_option maxRecDepth 20000 in
theorem ggX10_keep_X7_copies : GoodIn wsX10_keep wsX7_copies := goodIn_r _ [27, 19, 40] rfl (by decide +kernel)
set_option maxRecDepth 20000 in
theorem gX10_keep_X7_copies : GoodIn wsX10_keep (wsV RX10 216 RX7 yX7_copies wsX7_copies) := goodIn_app (goodIn_r _ [24, 25, 26, 17] rfl (by decide +kernel)) ggX10_keep_X7_copies
set_option maxRecDepth 20000 in
theorem ggX10_back_X10_isWithin : GoodIn wsX10_back wsX10_isWithin := goodIn_r _ [8] rfl (by decide +kernel)
set_option maxRecDepth 20000 in
theorem gX10_back_X10_isWithin : GoodIn wsX10_back (va_wsS RX10 82 yX10_isWithin wsX10_isWithin) := goodIn_app (goodIn_r _ [5, 6, 7] rfl (by decide +kernel)) ggX10_back_X10_isWithin
set_option maxRecDepth 20000 in
theorem ggX10_back_X1_restore : GoodIn wsX10_back wsX1_restore := goodIn_r _ [13, 14, 15, 16, 17, 18, 19, 20, 21, 22, 23, 24, 25, 43, 44, 45] rfl (by decide +kernel)
set_option maxRecDepth 20000 in
theorem gX10_back_X1_restore : GoodIn wsX10_back (wsV RX10 265 RX1 yX1_restore wsX1_restore) := goodIn_app (goodIn_r _ [9, 10, 11, 12] rfl (by decide +kernel)) ggX10_back_X1_restore
set_option maxRecDepth 20000 in
theorem ggX10_back_X7_copies : GoodIn wsX10_back wsX7_copies := goodIn_r _ [29, 21, 45] rfl (by decide +kernel)
set_option maxRecDepth 20000 in
theorem gX10_back_X7_copies : GoodIn wsX10_back (wsV RX10 216 RX7 yX7_copies wsX7_copies) := goodIn_app (goodIn_r _ [26, 27, 28, 19] rfl (by decide +kernel)) ggX10_back_X7_copies
set_option maxRecDepth 20000 in
theorem ggX10_count_X7_copies : GoodIn wsX10_count wsX7_copies := goodIn_r _ [12, 13, 65] rfl (by decide +kernel)
set_option maxRecDepth 20000 in
theorem gX10_count_X7_copies : GoodIn wsX10_count (wsV RX10 216 RX7 yX7_copies wsX7_copies) := goodIn_app (goodIn_r _ [8, 9, 10, 11] rfl (by decide +kernel)) ggX10_count_X7_copies
set_option maxRecDepth 20000 in
theorem ggX10_count_X7_configurations : GoodIn wsX10_count wsX7_configurations := goodIn_r _ [17, 13, 65] rfl (by decide +kernel)
set_option maxRecDepth 20000 in
theorem gX10_count_X7_configurations : GoodIn wsX10_count (wsV RX10 148 RX7 yX7_configurations wsX7_configurations) := goodIn_app (goodIn_r _ [14, 15, 16, 11] rfl (by decide +kernel)) ggX10_count_X7_configurations
set_option maxRecDepth 20000 in
theorem ggX10_count_X7_newest : GoodIn wsX10_count wsX7_newest := goodIn_r _ [21, 13, 65] rfl (by decide +kernel)
set_option maxRecDepth 20000 in
theorem gX10_count_X7_newest : GoodIn wsX10_count (wsV RX10 198 RX7 yX7_newest wsX7_newest) := goodIn_app (goodIn_r _ [18, 19, 20, 11] rfl (by decide +kernel)) ggX10_count_X7_newest
set_option maxRecDepth 20000 in
theorem ggX10_count_X7_readOf : GoodIn wsX10_count wsX7_readOf := goodIn_r _ [25, 13, 65] rfl (by decide +kernel)
set_option maxRecDepth 20000 in
theorem gX10_count_X7_readOf : GoodIn wsX10_count (wsV RX10 268 RX7 yX7_readOf wsX7_readOf) := goodIn_app (goodIn_r _ [22, 23, 24, 11] rfl (by decide +kernel)) ggX10_count_X7_readOf
set_option maxRecDepth 20000 in
theorem ggX10_count_X7_writeOf : GoodIn wsX10_count wsX7_writeOf := goodIn_r _ [29, 13, 65] rfl (by decide +kernel)
set_option maxRecDepth 20000 in
theorem gX10_count_X7_writeOf : GoodIn wsX10_count (wsV RX10 271 RX7 yX7_writeOf wsX7_writeOf) := goodIn_app (goodIn_r _ [26, 27, 28, 11] rfl (by decide +kernel)) ggX10_count_X7_writeOf
set_option maxRecDepth 20000 in
theorem ggX10_count_X7_total : GoodIn wsX10_count wsX7_total := goodIn_r _ [33, 34, 35, 36, 11, 37, 13, 38, 39, 40, 41, 42, 9, 10, 12, 43, 44, 45, 46, 65] rfl (by decide +kernel)
set_option maxRecDepth 20000 in
theorem gX10_count_X7_total : GoodIn wsX10_count (wsV RX10 151 RX7 yX7_total wsX7_total) := goodIn_app (goodIn_r _ [30, 31, 32, 11] rfl (by decide +kernel)) ggX10_count_X7_total
set_option maxRecDepth 20000 in
theorem ggX10_lookToRead_X10_isGroup : GoodIn wsX10_lookToRead wsX10_isGroup := goodIn_r _ [7, 8, 9, 6, 10] rfl (by decide +kernel)
set_option maxRecDepth 20000 in
theorem gX10_lookToRead_X10_isGroup : GoodIn wsX10_lookToRead (va_wsS RX10 117 yX10_isGroup wsX10_isGroup) := goodIn_app (goodIn_r _ [4, 5, 6] rfl (by decide +kernel)) ggX10_lookToRead_X10_isGroup
set_option maxRecDepth 20000 in
theorem ggX10_lookToRead_X3_look : GoodIn wsX10_lookToRead wsX3_look := goodIn_r _ [15, 16, 17, 18, 19, 20, 21, 22, 23, 24, 25, 26, 27, 28, 29, 30, 31, 32, 33, 34, 35, 36, 37, 38, 39, 40, 41, 42, 43, 44, 45, 46, 47, 48, 49, 50, 51, 52, 53, 54, 55, 56, 57, 58, 59, 60, 61, 62, 63, 64, 65, 66, 67, 68, 14, 69, 70, 71, 72, 73, 88, 89, 90, 91, 92, 93, 94, 95] rfl (by decide +kernel)
set_option maxRecDepth 20000 in
theorem gX10_lookToRead_X3_look : GoodIn wsX10_lookToRead (wsV RX10 120 RX3 yX3_look wsX3_look) := goodIn_app (goodIn_r _ [11, 12, 13, 14] rfl (by decide +kernel)) ggX10_lookToRead_X3_look
set_option maxRecDepth 20000 in
theorem ggX10_lookToRead_X3_refusal : GoodIn wsX10_lookToRead wsX3_refusal := goodIn_r _ [77, 16, 18, 20, 88, 89, 90, 91, 92, 93, 94] rfl (by decide +kernel)
set_option maxRecDepth 20000 in
theorem gX10_lookToRead_X3_refusal : GoodIn wsX10_lookToRead (wsV RX10 127 RX3 yX3_refusal wsX3_refusal) := goodIn_app (goodIn_r _ [74, 75, 76, 14] rfl (by decide +kernel)) ggX10_lookToRead_X3_refusal
set_option maxRecDepth 20000 in
theorem ggX10_isCopy_X7_copies : GoodIn wsX10_isCopy wsX7_copies := goodIn_r _ [6, 7, 22] rfl (by decide +kernel)
set_option maxRecDepth 20000 in
theorem gX10_isCopy_X7_copies : GoodIn wsX10_isCopy (wsV RX10 216 RX7 yX7_copies wsX7_copies) := goodIn_app (goodIn_r _ [2, 3, 4, 5] rfl (by decide +kernel)) ggX10_isCopy_X7_copies
set_option maxRecDepth 20000 in
theorem ggX10_isCopy_X10_isWithin : GoodIn wsX10_isCopy wsX10_isWithin := goodIn_r _ [11] rfl (by decide +kernel)
set_option maxRecDepth 20000 in
theorem gX10_isCopy_X10_isWithin : GoodIn wsX10_isCopy (va_wsS RX10 82 yX10_isWithin wsX10_isWithin) := goodIn_app (goodIn_r _ [8, 9, 10] rfl (by decide +kernel)) ggX10_isCopy_X10_isWithin
set_option maxRecDepth 20000 in
theorem ggX10_isGroup_X10_isWithin : GoodIn wsX10_isGroup wsX10_isWithin := goodIn_r _ [4] rfl (by decide +kernel)
set_option maxRecDepth 20000 in
theorem gX10_isGroup_X10_isWithin : GoodIn wsX10_isGroup (va_wsS RX10 82 yX10_isWithin wsX10_isWithin) := goodIn_app (goodIn_r _ [1, 2, 3] rfl (by decide +kernel)) ggX10_isGroup_X10_isWithin
set_option maxRecDepth 20000 in
theorem ggX11_init_X11_begins : GoodIn wsX11_init wsX11_begins := goodIn_r _ [21, 6, 22, 31, 32, 33, 34, 35, 36, 37, 38, 39, 40, 41, 42, 43, 44, 45, 46, 47, 48, 49, 50, 51, 52, 53] rfl (by decide +kernel)
set_option maxRecDepth 20000 in
theorem gX11_init_X11_begins : GoodIn wsX11_init (wsV RX11 44 RX11 yX11_begins wsX11_begins) := goodIn_app (goodIn_r _ [17, 18, 19, 20] rfl (by decide +kernel)) ggX11_init_X11_begins
set_option maxRecDepth 20000 in
theorem ggX11_init_X11_settles : GoodIn wsX11_init wsX11_settles := goodIn_r _ [26, 6, 22, 27, 7, 28, 29, 30, 11, 31, 32, 33, 34, 35, 36, 37, 38, 39, 40, 41, 42, 43, 44, 45, 46, 47, 48, 49, 50, 51, 52, 53] rfl (by decide +kernel)
set_option maxRecDepth 20000 in
theorem gX11_init_X11_settles : GoodIn wsX11_init (wsV RX11 47 RX11 yX11_settles wsX11_settles) := goodIn_app (goodIn_r _ [23, 24, 25, 20] rfl (by decide +kernel)) ggX11_init_X11_settles
set_option maxRecDepth 20000 in
theorem ggX11_type_X11_in : GoodIn wsX11_type wsX11_in := goodIn_r _ [7] rfl (by decide +kernel)
set_option maxRecDepth 20000 in
theorem gX11_type_X11_in : GoodIn wsX11_type (va_wsS RX11 54 yX11_in wsX11_in) := goodIn_app (goodIn_r _ [4, 5, 6] rfl (by decide +kernel)) ggX11_type_X11_in
set_option maxRecDepth 20000 in
theorem ggX11_isRow_X11_letterAt : GoodIn wsX11_isRow wsX11_letterAt := goodIn_r _ [6, 7, 8, 9, 10, 11, 12, 13, 14, 15, 16, 17, 18, 19, 20, 21, 22, 23, 24, 25, 26, 27, 28, 29, 30, 31] rfl (by decide +kernel)
set_option maxRecDepth 20000 in
theorem gX11_isRow_X11_letterAt : GoodIn wsX11_isRow (wsV RX11 64 RX11 yX11_letterAt wsX11_letterAt) := goodIn_app (goodIn_r _ [2, 3, 4, 5] rfl (by decide +kernel)) ggX11_isRow_X11_letterAt
set_option maxRecDepth 20000 in
theorem ggX11_reads_X11_letterAt : GoodIn wsX11_reads wsX11_letterAt := goodIn_r _ [9, 10, 11, 19, 20, 21, 22, 23, 24, 25, 26, 27, 28, 29, 30, 31, 32, 33, 34, 35, 36, 37, 38, 39, 40, 41] rfl (by decide +kernel)
set_option maxRecDepth 20000 in
theorem gX11_reads_X11_letterAt : GoodIn wsX11_reads (wsV RX11 64 RX11 yX11_letterAt wsX11_letterAt) := goodIn_app (goodIn_r _ [5, 6, 7, 8] rfl (by decide +kernel)) ggX11_reads_X11_letterAt
set_option maxRecDepth 20000 in
theorem ggX11_reads_X11_in : GoodIn wsX11_reads wsX11_in := goodIn_r _ [14] rfl (by decide +kernel)
set_option maxRecDepth 20000 in
theorem gX11_reads_X11_in : GoodIn wsX11_reads (va_wsS RX11 54 yX11_in wsX11_in) := goodIn_app (goodIn_r _ [12, 13, 8] rfl (by decide +kernel)) ggX11_reads_X11_in
set_option maxRecDepth 20000 in
theorem ggX11_reads_X11_isRow : GoodIn wsX11_reads wsX11_isRow := goodIn_r _ [18, 2, 5, 6, 7, 8, 9, 10, 11, 19, 20, 21, 22, 23, 24, 25, 26, 27, 28, 29, 30, 31, 32, 33, 34, 35, 36, 37, 38, 39, 40, 41] rfl (by decide +kernel)
set_option maxRecDepth 20000 in
theorem gX11_reads_X11_isRow : GoodIn wsX11_reads (wsV RX11 71 RX11 yX11_isRow wsX11_isRow) := goodIn_app (goodIn_r _ [15, 16, 17, 8] rfl (by decide +kernel)) ggX11_reads_X11_isRow
set_option maxRecDepth 20000 in
theorem ggX11_advances_X11_letterAt : GoodIn wsX11_advances wsX11_letterAt := goodIn_r _ [9, 10, 11, 23, 24, 25, 26, 27, 28, 29, 30, 31, 32, 33, 34, 35, 36, 37, 38, 39, 40, 41, 42, 43, 44, 45] rfl (by decide +kernel)
set_option maxRecDepth 20000 in
theorem gX11_advances_X11_letterAt : GoodIn wsX11_advances (wsV RX11 64 RX11 yX11_letterAt wsX11_letterAt) := goodIn_app (goodIn_r _ [5, 6, 7, 8] rfl (by decide +kernel)) ggX11_advances_X11_letterAt
set_option maxRecDepth 20000 in
theorem ggX11_advances_X11_in : GoodIn wsX11_advances wsX11_in := goodIn_r _ [14] rfl (by decide +kernel)
set_option maxRecDepth 20000 in
theorem gX11_advances_X11_in : GoodIn wsX11_advances (va_wsS RX11 54 yX11_in wsX11_in) := goodIn_app (goodIn_r _ [12, 13, 8] rfl (by decide +kernel)) ggX11_advances_X11_in
set_option maxRecDepth 20000 in
theorem ggX11_advances_X11_reads : GoodIn wsX11_advances wsX11_reads := goodIn_r _ [18, 1, 2, 4, 3, 5, 6, 7, 8, 9, 10, 11, 12, 13, 14, 19, 20, 21, 22, 23, 24, 25, 26, 27, 28, 29, 30, 31, 32, 33, 34, 35, 36, 37, 38, 39, 40, 41, 42, 43, 44, 45] rfl (by decide +kernel)
set_option maxRecDepth 20000 in
theorem gX11_advances_X11_reads : GoodIn wsX11_advances (wsV RX11 81 RX11 yX11_reads wsX11_reads) := goodIn_app (goodIn_r _ [15, 16, 17, 8] rfl (by decide +kernel)) ggX11_advances_X11_reads
set_option maxRecDepth 20000 in
theorem ggX11_takes_X11_isWell : GoodIn wsX11_takes wsX11_isWell := goodIn_r _ [8, 2, 32, 33, 34, 35, 36, 37, 38, 39, 40, 41, 42, 43, 44, 45, 46, 47, 48, 49, 50, 51, 52, 53, 54] rfl (by decide +kernel)
set_option maxRecDepth 20000 in
theorem gX11_takes_X11_isWell : GoodIn wsX11_takes (wsV RX11 87 RX11 yX11_isWell wsX11_isWell) := goodIn_app (goodIn_r _ [4, 5, 6, 7] rfl (by decide +kernel)) ggX11_takes_X11_isWell
set_option maxRecDepth 20000 in
theorem ggX11_takes_X11_advances : GoodIn wsX11_takes wsX11_advances := goodIn_r _ [12, 13, 1, 14, 3, 15, 16, 17, 7, 18, 19, 20, 21, 22, 23, 24, 25, 26, 27, 28, 29, 30, 31, 32, 33, 34, 35, 36, 37, 38, 39, 40, 41, 42, 43, 44, 45, 46, 47, 48, 49, 50, 51, 52, 53, 54] rfl (by decide +kernel)
set_option maxRecDepth 20000 in
theorem gX11_takes_X11_advances : GoodIn wsX11_takes (wsV RX11 91 RX11 yX11_advances wsX11_advances) := goodIn_app (goodIn_r _ [9, 10, 11, 7] rfl (by decide +kernel)) ggX11_takes_X11_advances
set_option maxRecDepth 20000 in
theorem ggX11_number_X11_in : GoodIn wsX11_number wsX11_in := goodIn_r _ [6] rfl (by decide +kernel)
set_option maxRecDepth 20000 in
theorem gX11_number_X11_in : GoodIn wsX11_number (va_wsS RX11 54 yX11_in wsX11_in) := goodIn_app (goodIn_r _ [3, 4, 5] rfl (by decide +kernel)) ggX11_number_X11_in
set_option maxRecDepth 20000 in
theorem ggX11_number_X11_takes : GoodIn wsX11_number wsX11_takes := goodIn_r _ [10, 11, 12, 2, 13, 14, 15, 5, 16, 17, 18, 19, 20, 21, 1, 22, 23, 24, 25, 26, 27, 3, 4, 6, 28, 29, 30, 31, 32, 33, 34, 35, 36, 37, 38, 39, 40, 41, 42, 43, 44, 45, 46, 47, 48, 49, 50, 51, 52, 53, 54, 55, 56, 57, 58] rfl (by decide +kernel)
set_option maxRecDepth 20000 in
theorem gX11_number_X11_takes : GoodIn wsX11_number (wsV RX11 94 RX11 yX11_takes wsX11_takes) := goodIn_app (goodIn_r _ [7, 8, 9, 5] rfl (by decide +kernel)) ggX11_number_X11_takes
set_option maxRecDepth 20000 in
theorem ggX11_readsItem_X11_number : GoodIn wsX11_readsItem wsX11_number := goodIn_r _ [7, 8, 9, 10, 11, 6, 12, 13, 14, 15, 16, 17, 18, 19, 20, 21, 22, 23, 24, 25, 26, 27, 28, 29, 30, 31, 32, 33, 34, 35, 36, 37, 38, 39, 40, 41, 42, 43, 44, 45, 46, 47, 48, 49, 50, 51, 52, 53, 54, 55, 56, 57, 58, 59, 60, 61, 62, 63, 64] rfl (by decide +kernel)
set_option maxRecDepth 20000 in
theorem gX11_readsItem_X11_number : GoodIn wsX11_readsItem (wsV RX11 101 RX11 yX11_number wsX11_number) := goodIn_app (goodIn_r _ [3, 4, 5, 6] rfl (by decide +kernel)) ggX11_readsItem_X11_number
set_option maxRecDepth 20000 in
theorem ggX11_isLawful_X11_in : GoodIn wsX11_isLawful wsX11_in := goodIn_r _ [4] rfl (by decide +kernel)
set_option maxRecDepth 20000 in
theorem gX11_isLawful_X11_in : GoodIn wsX11_isLawful (va_wsS RX11 54 yX11_in wsX11_in) := goodIn_app (goodIn_r _ [1, 2, 3] rfl (by decide +kernel)) ggX11_isLawful_X11_in
set_option maxRecDepth 20000 in
theorem ggX11_file_X11_begins : GoodIn wsX11_file wsX11_begins := goodIn_r _ [11, 5, 12, 70, 71, 72, 73, 74, 75, 76, 77, 78, 79, 80, 81, 82, 83, 84, 85, 86, 87, 88, 89, 90, 91, 92] rfl (by decide +kernel)
set_option maxRecDepth 20000 in
theorem gX11_file_X11_begins : GoodIn wsX11_file (wsV RX11 44 RX11 yX11_begins wsX11_begins) := goodIn_app (goodIn_r _ [7, 8, 9, 10] rfl (by decide +kernel)) ggX11_file_X11_begins
set_option maxRecDepth 20000 in
theorem ggX11_file_X11_advances : GoodIn wsX11_file wsX11_advances := goodIn_r _ [16, 3, 17, 4, 18, 19, 20, 21, 10, 22, 6, 23, 24, 25, 26, 27, 28, 29, 30, 31, 32, 33, 34, 70, 71, 72, 73, 74, 75, 76, 77, 78, 79, 80, 81, 82, 83, 84, 85, 86, 87, 88, 89, 90, 91, 92] rfl (by decide +kernel)
set_option maxRecDepth 20000 in
theorem gX11_file_X11_advances : GoodIn wsX11_file (wsV RX11 91 RX11 yX11_advances wsX11_advances) := goodIn_app (goodIn_r _ [13, 14, 15, 10] rfl (by decide +kernel)) ggX11_file_X11_advances
set_option maxRecDepth 20000 in
theorem ggX11_file_X11_isWell : GoodIn wsX11_file wsX11_isWell := goodIn_r _ [38, 2, 70, 71, 72, 73, 74, 75, 76, 77, 78, 79, 80, 81, 82, 83, 84, 85, 86, 87, 88, 89, 90, 91, 92] rfl (by decide +kernel)
set_option maxRecDepth 20000 in
theorem gX11_file_X11_isWell : GoodIn wsX11_file (wsV RX11 87 RX11 yX11_isWell wsX11_isWell) := goodIn_app (goodIn_r _ [35, 36, 37, 10] rfl (by decide +kernel)) ggX11_file_X11_isWell
set_option maxRecDepth 20000 in
theorem ggX11_file_X11_mayBegin : GoodIn wsX11_file wsX11_mayBegin := goodIn_r _ [42, 18, 12, 5, 70, 71, 72, 73, 74, 75, 76, 77, 78, 79, 80, 81, 82, 83, 84, 85, 86, 87, 88, 89, 90, 91, 92] rfl (by decide +kernel)
set_option maxRecDepth 20000 in
theorem gX11_file_X11_mayBegin : GoodIn wsX11_file (wsV RX11 105 RX11 yX11_mayBegin wsX11_mayBegin) := goodIn_app (goodIn_r _ [39, 40, 41, 10] rfl (by decide +kernel)) ggX11_file_X11_mayBegin
set_option maxRecDepth 20000 in
theorem ggX11_file_X11_takes : GoodIn wsX11_file wsX11_takes := goodIn_r _ [46, 17, 2, 18, 35, 36, 37, 10, 38, 13, 14, 15, 16, 3, 4, 19, 20, 21, 22, 6, 23, 24, 25, 26, 27, 28, 29, 30, 31, 32, 33, 34, 70, 71, 72, 73, 74, 75, 76, 77, 78, 79, 80, 81, 82, 83, 84, 85, 86, 87, 88, 89, 90, 91, 92] rfl (by decide +kernel)
set_option maxRecDepth 20000 in
theorem gX11_file_X11_takes : GoodIn wsX11_file (wsV RX11 94 RX11 yX11_takes wsX11_takes) := goodIn_app (goodIn_r _ [43, 44, 45, 10] rfl (by decide +kernel)) ggX11_file_X11_takes
set_option maxRecDepth 20000 in
theorem ggX11_file_X11_readsItem : GoodIn wsX11_file wsX11_readsItem := goodIn_r _ [50, 5, 12, 51, 52, 53, 10, 54, 4, 18, 24, 25, 26, 43, 44, 45, 46, 17, 2, 35, 36, 37, 38, 13, 14, 15, 16, 3, 19, 20, 21, 22, 6, 23, 27, 28, 29, 30, 31, 32, 33, 34, 70, 71, 72, 73, 74, 75, 76, 77, 78, 79, 80, 81, 82, 83, 84, 85, 86, 87, 88, 89, 90, 91, 92] rfl (by decide +kernel)
set_option maxRecDepth 20000 in
theorem gX11_file_X11_readsItem : GoodIn wsX11_file (wsV RX11 108 RX11 yX11_readsItem wsX11_readsItem) := goodIn_app (goodIn_r _ [47, 48, 49, 10] rfl (by decide +kernel)) ggX11_file_X11_readsItem
set_option maxRecDepth 20000 in
theorem ggX11_file_X11_totalOf : GoodIn wsX11_file wsX11_totalOf := goodIn_r _ [57] rfl (by decide +kernel)
set_option maxRecDepth 20000 in
theorem gX11_file_X11_totalOf : GoodIn wsX11_file (va_wsS RX11 112 yX11_totalOf wsX11_totalOf) := goodIn_app (goodIn_r _ [55, 56, 10] rfl (by decide +kernel)) ggX11_file_X11_totalOf
set_option maxRecDepth 20000 in
theorem ggX11_file_X11_isLawful : GoodIn wsX11_file wsX11_isLawful := goodIn_r _ [60, 24, 25, 10, 26] rfl (by decide +kernel)
set_option maxRecDepth 20000 in
theorem gX11_file_X11_isLawful : GoodIn wsX11_file (va_wsS RX11 116 yX11_isLawful wsX11_isLawful) := goodIn_app (goodIn_r _ [58, 59, 10] rfl (by decide +kernel)) ggX11_file_X11_isLawful
set_option maxRecDepth 20000 in
theorem ggX11_file_X11_settles : GoodIn wsX11_file wsX11_settles := goodIn_r _ [64, 5, 12, 65, 66, 6, 67, 68, 69, 70, 71, 72, 73, 74, 75, 76, 77, 78, 79, 80, 81, 82, 83, 84, 85, 86, 87, 88, 89, 90, 91, 92] rfl (by decide +kernel)
set_option maxRecDepth 20000 in
theorem gX11_file_X11_settles : GoodIn wsX11_file (wsV RX11 47 RX11 yX11_settles wsX11_settles) := goodIn_app (goodIn_r _ [61, 62, 63, 10] rfl (by decide +kernel)) ggX11_file_X11_settles
set_option maxRecDepth 20000 in
theorem ggX11_isCopy_X11_in : GoodIn wsX11_isCopy wsX11_in := goodIn_r _ [5] rfl (by decide +kernel)
set_option maxRecDepth 20000 in
theorem gX11_isCopy_X11_in : GoodIn wsX11_isCopy (va_wsS RX11 54 yX11_in wsX11_in) := goodIn_app (goodIn_r _ [2, 3, 4] rfl (by decide +kernel)) ggX11_isCopy_X11_in
set_option maxRecDepth 20000 in
theorem ggX11_isGroup_X11_in : GoodIn wsX11_isGroup wsX11_in := goodIn_r _ [4] rfl (by decide +kernel)
set_option maxRecDepth 20000 in
theorem gX11_isGroup_X11_in : GoodIn wsX11_isGroup (va_wsS RX11 54 yX11_in wsX11_in) := goodIn_app (goodIn_r _ [1, 2, 3] rfl (by decide +kernel)) ggX11_isGroup_X11_in
set_option maxRecDepth 20000 in
theorem ggX11_newest_X11_confAt : GoodIn wsX11_newest wsX11_confAt := goodIn_r _ [5] rfl (by decide +kernel)
set_option maxRecDepth 20000 in
theorem gX11_newest_X11_confAt : GoodIn wsX11_newest (va_wsS RX11 128 yX11_confAt wsX11_confAt) := goodIn_app (goodIn_r _ [2, 3, 4] rfl (by decide +kernel)) ggX11_newest_X11_confAt
set_option maxRecDepth 20000 in
theorem ggX11_greatest_X11_has : GoodIn wsX11_greatest wsX11_has := goodIn_r _ [6] rfl (by decide +kernel)
set_option maxRecDepth 20000 in
theorem gX11_greatest_X11_has : GoodIn wsX11_greatest (va_wsS RX11 131 yX11_has wsX11_has) := goodIn_app (goodIn_r _ [3, 4, 5] rfl (by decide +kernel)) ggX11_greatest_X11_has
set_option maxRecDepth 20000 in
theorem ggX11_votesOf_X11_has : GoodIn wsX11_votesOf wsX11_has := goodIn_r _ [6] rfl (by decide +kernel)
set_option maxRecDepth 20000 in
theorem gX11_votesOf_X11_has : GoodIn wsX11_votesOf (va_wsS RX11 131 yX11_has wsX11_has) := goodIn_app (goodIn_r _ [3, 4, 5] rfl (by decide +kernel)) ggX11_votesOf_X11_has
set_option maxRecDepth 20000 in
theorem ggX11_data_X11_greatest : GoodIn wsX11_data wsX11_greatest := goodIn_r _ [7, 1, 2, 8, 9, 6, 10, 11, 12, 13, 14, 15, 16, 17, 18, 19, 20, 21, 22, 23, 24, 25, 26, 27, 28, 29, 30, 31, 32, 33] rfl (by decide +kernel)
set_option maxRecDepth 20000 in
theorem gX11_data_X11_greatest : GoodIn wsX11_data (wsV RX11 135 RX11 yX11_greatest wsX11_greatest) := goodIn_app (goodIn_r _ [3, 4, 5, 6] rfl (by decide +kernel)) ggX11_data_X11_greatest
set_option maxRecDepth 20000 in
theorem ggX11_data_X11_has : GoodIn wsX11_data wsX11_has := goodIn_r _ [10] rfl (by decide +kernel)
set_option maxRecDepth 20000 in
theorem gX11_data_X11_has : GoodIn wsX11_data (va_wsS RX11 131 yX11_has wsX11_has) := goodIn_app (goodIn_r _ [8, 9, 6] rfl (by decide +kernel)) ggX11_data_X11_has
set_option maxRecDepth 20000 in
theorem ggX11_isEnough_X11_greatest : GoodIn wsX11_isEnough wsX11_greatest := goodIn_r _ [6, 7, 1, 8, 9, 5, 10, 18, 19, 20, 21, 22, 23, 24, 25, 26, 27, 28, 29, 30, 31, 32, 33, 34, 35, 36, 37, 38, 39, 40] rfl (by decide +kernel)
set_option maxRecDepth 20000 in
theorem gX11_isEnough_X11_greatest : GoodIn wsX11_isEnough (wsV RX11 135 RX11 yX11_greatest wsX11_greatest) := goodIn_app (goodIn_r _ [2, 3, 4, 5] rfl (by decide +kernel)) ggX11_isEnough_X11_greatest
set_option maxRecDepth 20000 in
theorem ggX11_isEnough_X11_confAt : GoodIn wsX11_isEnough wsX11_confAt := goodIn_r _ [13] rfl (by decide +kernel)
set_option maxRecDepth 20000 in
theorem gX11_isEnough_X11_confAt : GoodIn wsX11_isEnough (va_wsS RX11 128 yX11_confAt wsX11_confAt) := goodIn_app (goodIn_r _ [11, 12, 5] rfl (by decide +kernel)) ggX11_isEnough_X11_confAt
set_option maxRecDepth 20000 in
theorem ggX11_isEnough_X11_votesOf : GoodIn wsX11_isEnough wsX11_votesOf := goodIn_r _ [17, 7, 1, 8, 9, 5, 10, 18, 19, 20, 21, 22, 23, 24, 25, 26, 27, 28, 29, 30, 31, 32, 33, 34, 35, 36, 37, 38, 39, 40] rfl (by decide +kernel)
set_option maxRecDepth 20000 in
theorem gX11_isEnough_X11_votesOf : GoodIn wsX11_isEnough (wsV RX11 138 RX11 yX11_votesOf wsX11_votesOf) := goodIn_app (goodIn_r _ [14, 15, 16, 5] rfl (by decide +kernel)) ggX11_isEnough_X11_votesOf
set_option maxRecDepth 20000 in
theorem ggX11_gives_X11_has : GoodIn wsX11_gives wsX11_has := goodIn_r _ [6] rfl (by decide +kernel)
set_option maxRecDepth 20000 in
theorem gX11_gives_X11_has : GoodIn wsX11_gives (va_wsS RX11 131 yX11_has wsX11_has) := goodIn_app (goodIn_r _ [3, 4, 5] rfl (by decide +kernel)) ggX11_gives_X11_has
set_option maxRecDepth 20000 in
theorem ggX11_gives_X11_confAt : GoodIn wsX11_gives wsX11_confAt := goodIn_r _ [9] rfl (by decide +kernel)
set_option maxRecDepth 20000 in
theorem gX11_gives_X11_confAt : GoodIn wsX11_gives (va_wsS RX11 128 yX11_confAt wsX11_confAt) := goodIn_app (goodIn_r _ [7, 8, 5] rfl (by decide +kernel)) ggX11_gives_X11_confAt
set_option maxRecDepth 20000 in
theorem ggX11_reads__X11_isGroup : GoodIn wsX11_reads_ wsX11_isGroup := goodIn_r _ [6, 7, 8, 5, 9] rfl (by decide +kernel)
set_option maxRecDepth 20000 in
theorem gX11_reads__X11_isGroup : GoodIn wsX11_reads_ (va_wsS RX11 141 yX11_isGroup wsX11_isGroup) := goodIn_app (goodIn_r _ [3, 4, 5] rfl (by decide +kernel)) ggX11_reads__X11_isGroup
set_option maxRecDepth 20000 in
theorem ggX11_reads__X11_present : GoodIn wsX11_reads_ wsX11_present := goodIn_r _ [13, 14, 15, 38, 39, 40, 41, 42, 43, 44, 45, 46, 47, 48, 49, 50, 51, 52, 53, 54, 55, 56, 57, 58, 59, 60] rfl (by decide +kernel)
set_option maxRecDepth 20000 in
theorem gX11_reads__X11_present : GoodIn wsX11_reads_ (wsV RX11 145 RX11 yX11_present wsX11_present) := goodIn_app (goodIn_r _ [10, 11, 12, 5] rfl (by decide +kernel)) ggX11_reads__X11_present
set_option maxRecDepth 20000 in
theorem ggX11_reads__X11_isEnough : GoodIn wsX11_reads_ wsX11_isEnough := goodIn_r _ [19, 15, 20, 21, 22, 5, 23, 14, 24, 25, 26, 27, 28, 29, 30, 31, 32, 33, 38, 39, 40, 41, 42, 43, 44, 45, 46, 47, 48, 49, 50, 51, 52, 53, 54, 55, 56, 57, 58, 59, 60] rfl (by decide +kernel)
set_option maxRecDepth 20000 in
theorem gX11_reads__X11_isEnough : GoodIn wsX11_reads_ (wsV RX11 148 RX11 yX11_isEnough wsX11_isEnough) := goodIn_app (goodIn_r _ [16, 17, 18, 5] rfl (by decide +kernel)) ggX11_reads__X11_isEnough
set_option maxRecDepth 20000 in
theorem ggX11_reads__X11_data : GoodIn wsX11_reads_ wsX11_data := goodIn_r _ [37, 14, 15, 20, 21, 22, 5, 23, 24, 25, 26, 38, 39, 40, 41, 42, 43, 44, 45, 46, 47, 48, 49, 50, 51, 52, 53, 54, 55, 56, 57, 58, 59, 60] rfl (by decide +kernel)
set_option maxRecDepth 20000 in
theorem gX11_reads__X11_data : GoodIn wsX11_reads_ (wsV RX11 151 RX11 yX11_data wsX11_data) := goodIn_app (goodIn_r _ [34, 35, 36, 5] rfl (by decide +kernel)) ggX11_reads__X11_data
set_option maxRecDepth 20000 in
theorem ggX11_reads__X11_greatest : GoodIn wsX11_reads_ wsX11_greatest := goodIn_r _ [23, 14, 15, 24, 25, 5, 26, 38, 39, 40, 41, 42, 43, 44, 45, 46, 47, 48, 49, 50, 51, 52, 53, 54, 55, 56, 57, 58, 59, 60] rfl (by decide +kernel)
set_option maxRecDepth 20000 in
theorem gX11_reads__X11_greatest : GoodIn wsX11_reads_ (wsV RX11 135 RX11 yX11_greatest wsX11_greatest) := goodIn_app (goodIn_r _ [20, 21, 22, 5] rfl (by decide +kernel)) ggX11_reads__X11_greatest
set_option maxRecDepth 20000 in
theorem ggX11_writes_X11_isGroup : GoodIn wsX11_writes wsX11_isGroup := goodIn_r _ [5, 6, 7, 4, 8] rfl (by decide +kernel)
set_option maxRecDepth 20000 in
theorem gX11_writes_X11_isGroup : GoodIn wsX11_writes (va_wsS RX11 141 yX11_isGroup wsX11_isGroup) := goodIn_app (goodIn_r _ [2, 3, 4] rfl (by decide +kernel)) ggX11_writes_X11_isGroup
set_option maxRecDepth 20000 in
theorem ggX11_writes_X11_in : GoodIn wsX11_writes wsX11_in := goodIn_r _ [8] rfl (by decide +kernel)
set_option maxRecDepth 20000 in
theorem gX11_writes_X11_in : GoodIn wsX11_writes (va_wsS RX11 54 yX11_in wsX11_in) := goodIn_app (goodIn_r _ [6, 7, 4] rfl (by decide +kernel)) ggX11_writes_X11_in
set_option maxRecDepth 20000 in
theorem ggX11_writes_X11_present : GoodIn wsX11_writes wsX11_present := goodIn_r _ [12, 13, 14, 43, 44, 45, 46, 47, 48, 49, 50, 51, 52, 53, 54, 55, 56, 57, 58, 59, 60, 61, 62, 63, 64, 65] rfl (by decide +kernel)
set_option maxRecDepth 20000 in
theorem gX11_writes_X11_present : GoodIn wsX11_writes (wsV RX11 145 RX11 yX11_present wsX11_present) := goodIn_app (goodIn_r _ [9, 10, 11, 4] rfl (by decide +kernel)) ggX11_writes_X11_present
set_option maxRecDepth 20000 in
theorem ggX11_writes_X11_isEnough : GoodIn wsX11_writes wsX11_isEnough := goodIn_r _ [18, 14, 19, 20, 21, 4, 22, 13, 23, 24, 25, 26, 27, 28, 29, 30, 31, 32, 43, 44, 45, 46, 47, 48, 49, 50, 51, 52, 53, 54, 55, 56, 57, 58, 59, 60, 61, 62, 63, 64, 65] rfl (by decide +kernel)
set_option maxRecDepth 20000 in
theorem gX11_writes_X11_isEnough : GoodIn wsX11_writes (wsV RX11 148 RX11 yX11_isEnough wsX11_isEnough) := goodIn_app (goodIn_r _ [15, 16, 17, 4] rfl (by decide +kernel)) ggX11_writes_X11_isEnough
set_option maxRecDepth 20000 in
theorem ggX11_writes_X11_notes : GoodIn wsX11_writes wsX11_notes := goodIn_r _ [36, 37, 38, 14, 43, 44, 45, 46, 47, 48, 49, 50, 51, 52, 53, 54, 55, 56, 57, 58, 59, 60, 61, 62, 63, 64, 65] rfl (by decide +kernel)
set_option maxRecDepth 20000 in
theorem gX11_writes_X11_notes : GoodIn wsX11_writes (wsV RX11 157 RX11 yX11_notes wsX11_notes) := goodIn_app (goodIn_r _ [33, 34, 35, 4] rfl (by decide +kernel)) ggX11_writes_X11_notes
set_option maxRecDepth 20000 in
theorem ggX11_writes_X11_greatest : GoodIn wsX11_writes wsX11_greatest := goodIn_r _ [22, 13, 14, 23, 24, 4, 25, 43, 44, 45, 46, 47, 48, 49, 50, 51, 52, 53, 54, 55, 56, 57, 58, 59, 60, 61, 62, 63, 64, 65] rfl (by decide +kernel)
set_option maxRecDepth 20000 in
theorem gX11_writes_X11_greatest : GoodIn wsX11_writes (wsV RX11 135 RX11 yX11_greatest wsX11_greatest) := goodIn_app (goodIn_r _ [19, 20, 21, 4] rfl (by decide +kernel)) ggX11_writes_X11_greatest
set_option maxRecDepth 20000 in
theorem ggX11_writes_X11_gives : GoodIn wsX11_writes wsX11_gives := goodIn_r _ [42, 13, 14, 23, 24, 4, 25, 26, 27, 28, 43, 44, 45, 46, 47, 48, 49, 50, 51, 52, 53, 54, 55, 56, 57, 58, 59, 60, 61, 62, 63, 64, 65] rfl (by decide +kernel)
set_option maxRecDepth 20000 in
theorem gX11_writes_X11_gives : GoodIn wsX11_writes (wsV RX11 160 RX11 yX11_gives wsX11_gives) := goodIn_app (goodIn_r _ [39, 40, 41, 4] rfl (by decide +kernel)) ggX11_writes_X11_gives
set_option maxRecDepth 20000 in
theorem ggX11_mends_X11_isGroup : GoodIn wsX11_mends wsX11_isGroup := goodIn_r _ [7, 8, 9, 6, 10] rfl (by decide +kernel)
set_option maxRecDepth 20000 in
theorem gX11_mends_X11_isGroup : GoodIn wsX11_mends (va_wsS RX11 141 yX11_isGroup wsX11_isGroup) := goodIn_app (goodIn_r _ [4, 5, 6] rfl (by decide +kernel)) ggX11_mends_X11_isGroup
set_option maxRecDepth 20000 in
theorem ggX11_mends_X11_present : GoodIn wsX11_mends wsX11_present := goodIn_r _ [14, 2, 3, 47, 48, 49, 50, 51, 52, 53, 54, 55, 56, 57, 58, 59, 60, 61, 62, 63, 64, 65, 66, 67, 68, 69] rfl (by decide +kernel)
set_option maxRecDepth 20000 in
theorem gX11_mends_X11_present : GoodIn wsX11_mends (wsV RX11 145 RX11 yX11_present wsX11_present) := goodIn_app (goodIn_r _ [11, 12, 13, 6] rfl (by decide +kernel)) ggX11_mends_X11_present
set_option maxRecDepth 20000 in
theorem ggX11_mends_X11_isEnough : GoodIn wsX11_mends wsX11_isEnough := goodIn_r _ [18, 3, 19, 20, 21, 6, 22, 2, 23, 24, 25, 26, 27, 28, 29, 30, 31, 32, 47, 48, 49, 50, 51, 52, 53, 54, 55, 56, 57, 58, 59, 60, 61, 62, 63, 64, 65, 66, 67, 68, 69] rfl (by decide +kernel)
set_option maxRecDepth 20000 in
theorem gX11_mends_X11_isEnough : GoodIn wsX11_mends (wsV RX11 148 RX11 yX11_isEnough wsX11_isEnough) := goodIn_app (goodIn_r _ [15, 16, 17, 6] rfl (by decide +kernel)) ggX11_mends_X11_isEnough
set_option maxRecDepth 20000 in
theorem ggX11_mends_X11_data : GoodIn wsX11_mends wsX11_data := goodIn_r _ [36, 2, 3, 19, 20, 21, 6, 22, 23, 24, 25, 47, 48, 49, 50, 51, 52, 53, 54, 55, 56, 57, 58, 59, 60, 61, 62, 63, 64, 65, 66, 67, 68, 69] rfl (by decide +kernel)
set_option maxRecDepth 20000 in
theorem gX11_mends_X11_data : GoodIn wsX11_mends (wsV RX11 151 RX11 yX11_data wsX11_data) := goodIn_app (goodIn_r _ [33, 34, 35, 6] rfl (by decide +kernel)) ggX11_mends_X11_data
set_option maxRecDepth 20000 in
theorem ggX11_mends_X11_notes : GoodIn wsX11_mends wsX11_notes := goodIn_r _ [40, 41, 42, 3, 47, 48, 49, 50, 51, 52, 53, 54, 55, 56, 57, 58, 59, 60, 61, 62, 63, 64, 65, 66, 67, 68, 69] rfl (by decide +kernel)
set_option maxRecDepth 20000 in
theorem gX11_mends_X11_notes : GoodIn wsX11_mends (wsV RX11 157 RX11 yX11_notes wsX11_notes) := goodIn_app (goodIn_r _ [37, 38, 39, 6] rfl (by decide +kernel)) ggX11_mends_X11_notes
set_option maxRecDepth 20000 in
theorem ggX11_mends_X11_greatest : GoodIn wsX11_mends wsX11_greatest := goodIn_r _ [22, 2, 3, 23, 24, 6, 25, 47, 48, 49, 50, 51, 52, 53, 54, 55, 56, 57, 58, 59, 60, 61, 62, 63, 64, 65, 66, 67, 68, 69] rfl (by decide +kernel)
set_option maxRecDepth 20000 in
theorem gX11_mends_X11_greatest : GoodIn wsX11_mends (wsV RX11 135 RX11 yX11_greatest wsX11_greatest) := goodIn_app (goodIn_r _ [19, 20, 21, 6] rfl (by decide +kernel)) ggX11_mends_X11_greatest
set_option maxRecDepth 20000 in
theorem ggX11_mends_X11_has : GoodIn wsX11_mends wsX11_has := goodIn_r _ [25] rfl (by decide +kernel)
set_option maxRecDepth 20000 in
theorem gX11_mends_X11_has : GoodIn wsX11_mends (va_wsS RX11 131 yX11_has wsX11_has) := goodIn_app (goodIn_r _ [23, 24, 6] rfl (by decide +kernel)) ggX11_mends_X11_has
set_option maxRecDepth 20000 in
theorem ggX11_mends_X11_gives : GoodIn wsX11_mends wsX11_gives := goodIn_r _ [46, 2, 3, 23, 24, 6, 25, 26, 27, 28, 47, 48, 49, 50, 51, 52, 53, 54, 55, 56, 57, 58, 59, 60, 61, 62, 63, 64, 65, 66, 67, 68, 69] rfl (by decide +kernel)
set_option maxRecDepth 20000 in
theorem gX11_mends_X11_gives : GoodIn wsX11_mends (wsV RX11 160 RX11 yX11_gives wsX11_gives) := goodIn_app (goodIn_r _ [43, 44, 45, 6] rfl (by decide +kernel)) ggX11_mends_X11_gives
set_option maxRecDepth 20000 in
theorem ggX11_votes_X11_isGroup : GoodIn wsX11_votes wsX11_isGroup := goodIn_r _ [6, 7, 8, 5, 9] rfl (by decide +kernel)
set_option maxRecDepth 20000 in
theorem gX11_votes_X11_isGroup : GoodIn wsX11_votes (va_wsS RX11 141 yX11_isGroup wsX11_isGroup) := goodIn_app (goodIn_r _ [3, 4, 5] rfl (by decide +kernel)) ggX11_votes_X11_isGroup
set_option maxRecDepth 20000 in
theorem ggX11_votes_X11_isCopy : GoodIn wsX11_votes wsX11_isCopy := goodIn_r _ [13, 14, 7, 8, 5, 9, 57, 58, 59, 60, 61, 62, 63, 64, 65, 66, 67, 68, 69, 70, 71, 72, 73, 74, 75, 76, 77, 78, 79] rfl (by decide +kernel)
set_option maxRecDepth 20000 in
theorem gX11_votes_X11_isCopy : GoodIn wsX11_votes (wsV RX11 164 RX11 yX11_isCopy wsX11_isCopy) := goodIn_app (goodIn_r _ [10, 11, 12, 5] rfl (by decide +kernel)) ggX11_votes_X11_isCopy
set_option maxRecDepth 20000 in
theorem ggX11_votes_X11_in : GoodIn wsX11_votes wsX11_in := goodIn_r _ [9] rfl (by decide +kernel)
set_option maxRecDepth 20000 in
theorem gX11_votes_X11_in : GoodIn wsX11_votes (va_wsS RX11 54 yX11_in wsX11_in) := goodIn_app (goodIn_r _ [7, 8, 5] rfl (by decide +kernel)) ggX11_votes_X11_in
set_option maxRecDepth 20000 in
theorem ggX11_votes_X11_present : GoodIn wsX11_votes wsX11_present := goodIn_r _ [18, 14, 2, 57, 58, 59, 60, 61, 62, 63, 64, 65, 66, 67, 68, 69, 70, 71, 72, 73, 74, 75, 76, 77, 78, 79] rfl (by decide +kernel)
set_option maxRecDepth 20000 in
theorem gX11_votes_X11_present : GoodIn wsX11_votes (wsV RX11 145 RX11 yX11_present wsX11_present) := goodIn_app (goodIn_r _ [15, 16, 17, 5] rfl (by decide +kernel)) ggX11_votes_X11_present
set_option maxRecDepth 20000 in
theorem ggX11_votes_X11_greatest : GoodIn wsX11_votes wsX11_greatest := goodIn_r _ [22, 14, 2, 23, 24, 5, 25, 57, 58, 59, 60, 61, 62, 63, 64, 65, 66, 67, 68, 69, 70, 71, 72, 73, 74, 75, 76, 77, 78, 79] rfl (by decide +kernel)
set_option maxRecDepth 20000 in
theorem gX11_votes_X11_greatest : GoodIn wsX11_votes (wsV RX11 135 RX11 yX11_greatest wsX11_greatest) := goodIn_app (goodIn_r _ [19, 20, 21, 5] rfl (by decide +kernel)) ggX11_votes_X11_greatest
set_option maxRecDepth 20000 in
theorem ggX11_votes_X11_confAt : GoodIn wsX11_votes wsX11_confAt := goodIn_r _ [28] rfl (by decide +kernel)
set_option maxRecDepth 20000 in
theorem gX11_votes_X11_confAt : GoodIn wsX11_votes (va_wsS RX11 128 yX11_confAt wsX11_confAt) := goodIn_app (goodIn_r _ [26, 27, 5] rfl (by decide +kernel)) ggX11_votes_X11_confAt
set_option maxRecDepth 20000 in
theorem ggX11_votes_X11_totalOf : GoodIn wsX11_votes wsX11_totalOf := goodIn_r _ [31] rfl (by decide +kernel)
set_option maxRecDepth 20000 in
theorem gX11_votes_X11_totalOf : GoodIn wsX11_votes (va_wsS RX11 112 yX11_totalOf wsX11_totalOf) := goodIn_app (goodIn_r _ [29, 30, 5] rfl (by decide +kernel)) ggX11_votes_X11_totalOf
set_option maxRecDepth 20000 in
theorem ggX11_votes_X11_isLawful : GoodIn wsX11_votes wsX11_isLawful := goodIn_r _ [34, 7, 8, 5, 9] rfl (by decide +kernel)
set_option maxRecDepth 20000 in
theorem gX11_votes_X11_isLawful : GoodIn wsX11_votes (va_wsS RX11 116 yX11_isLawful wsX11_isLawful) := goodIn_app (goodIn_r _ [32, 33, 5] rfl (by decide +kernel)) ggX11_votes_X11_isLawful
set_option maxRecDepth 20000 in
theorem ggX11_votes_X11_isEnough : GoodIn wsX11_votes wsX11_isEnough := goodIn_r _ [38, 2, 19, 20, 21, 5, 22, 14, 23, 24, 25, 26, 27, 28, 39, 40, 41, 42, 57, 58, 59, 60, 61, 62, 63, 64, 65, 66, 67, 68, 69, 70, 71, 72, 73, 74, 75, 76, 77, 78, 79] rfl (by decide +kernel)
set_option maxRecDepth 20000 in
theorem gX11_votes_X11_isEnough : GoodIn wsX11_votes (wsV RX11 148 RX11 yX11_isEnough wsX11_isEnough) := goodIn_app (goodIn_r _ [35, 36, 37, 5] rfl (by decide +kernel)) ggX11_votes_X11_isEnough
set_option maxRecDepth 20000 in
theorem ggX11_votes_X11_data : GoodIn wsX11_votes wsX11_data := goodIn_r _ [46, 14, 2, 19, 20, 21, 5, 22, 23, 24, 25, 57, 58, 59, 60, 61, 62, 63, 64, 65, 66, 67, 68, 69, 70, 71, 72, 73, 74, 75, 76, 77, 78, 79] rfl (by decide +kernel)
set_option maxRecDepth 20000 in
theorem gX11_votes_X11_data : GoodIn wsX11_votes (wsV RX11 151 RX11 yX11_data wsX11_data) := goodIn_app (goodIn_r _ [43, 44, 45, 5] rfl (by decide +kernel)) ggX11_votes_X11_data
set_option maxRecDepth 20000 in
theorem ggX11_votes_X11_notes : GoodIn wsX11_votes wsX11_notes := goodIn_r _ [50, 51, 52, 2, 57, 58, 59, 60, 61, 62, 63, 64, 65, 66, 67, 68, 69, 70, 71, 72, 73, 74, 75, 76, 77, 78, 79] rfl (by decide +kernel)
set_option maxRecDepth 20000 in
theorem gX11_votes_X11_notes : GoodIn wsX11_votes (wsV RX11 157 RX11 yX11_notes wsX11_notes) := goodIn_app (goodIn_r _ [47, 48, 49, 5] rfl (by decide +kernel)) ggX11_votes_X11_notes
set_option maxRecDepth 20000 in
theorem ggX11_votes_X11_gives : GoodIn wsX11_votes wsX11_gives := goodIn_r _ [56, 14, 2, 23, 24, 5, 25, 26, 27, 28, 57, 58, 59, 60, 61, 62, 63, 64, 65, 66, 67, 68, 69, 70, 71, 72, 73, 74, 75, 76, 77, 78, 79] rfl (by decide +kernel)
set_option maxRecDepth 20000 in
theorem gX11_votes_X11_gives : GoodIn wsX11_votes (wsV RX11 160 RX11 yX11_gives wsX11_gives) := goodIn_app (goodIn_r _ [53, 54, 55, 5] rfl (by decide +kernel)) ggX11_votes_X11_gives
set_option maxRecDepth 20000 in
theorem ggX11_flips_X11_isCopy : GoodIn wsX11_flips wsX11_isCopy := goodIn_r _ [7, 8, 9, 10, 6, 11, 18, 19, 20, 21, 22, 23, 24, 25, 26, 27, 28, 29, 30, 31, 32, 33, 34, 35, 36, 37, 38, 39, 40] rfl (by decide +kernel)
set_option maxRecDepth 20000 in
theorem gX11_flips_X11_isCopy : GoodIn wsX11_flips (wsV RX11 164 RX11 yX11_isCopy wsX11_isCopy) := goodIn_app (goodIn_r _ [3, 4, 5, 6] rfl (by decide +kernel)) ggX11_flips_X11_isCopy
set_option maxRecDepth 20000 in
theorem ggX11_flips_X11_notes : GoodIn wsX11_flips wsX11_notes := goodIn_r _ [15, 16, 17, 2, 18, 19, 20, 21, 22, 23, 24, 25, 26, 27, 28, 29, 30, 31, 32, 33, 34, 35, 36, 37, 38, 39, 40] rfl (by decide +kernel)
set_option maxRecDepth 20000 in
theorem gX11_flips_X11_notes : GoodIn wsX11_flips (wsV RX11 157 RX11 yX11_notes wsX11_notes) := goodIn_app (goodIn_r _ [12, 13, 14, 6] rfl (by decide +kernel)) ggX11_flips_X11_notes
set_option maxRecDepth 20000 in
theorem ggX11_moves_X11_isCopy : GoodIn wsX11_moves wsX11_isCopy := goodIn_r _ [7, 8, 9, 10, 6, 11, 21, 22, 23, 24, 25, 26, 27, 28, 29, 30, 31, 32, 33, 34, 35, 36, 37, 38, 39, 40, 41, 42, 43] rfl (by decide +kernel)
set_option maxRecDepth 20000 in
theorem gX11_moves_X11_isCopy : GoodIn wsX11_moves (wsV RX11 164 RX11 yX11_isCopy wsX11_isCopy) := goodIn_app (goodIn_r _ [3, 4, 5, 6] rfl (by decide +kernel)) ggX11_moves_X11_isCopy
set_option maxRecDepth 20000 in
theorem ggX11_moves_X11_isGroup : GoodIn wsX11_moves wsX11_isGroup := goodIn_r _ [14, 9, 10, 6, 11] rfl (by decide +kernel)
set_option maxRecDepth 20000 in
theorem gX11_moves_X11_isGroup : GoodIn wsX11_moves (va_wsS RX11 141 yX11_isGroup wsX11_isGroup) := goodIn_app (goodIn_r _ [12, 13, 6] rfl (by decide +kernel)) ggX11_moves_X11_isGroup
set_option maxRecDepth 20000 in
theorem ggX11_moves_X11_notes : GoodIn wsX11_moves wsX11_notes := goodIn_r _ [18, 19, 20, 2, 21, 22, 23, 24, 25, 26, 27, 28, 29, 30, 31, 32, 33, 34, 35, 36, 37, 38, 39, 40, 41, 42, 43] rfl (by decide +kernel)
set_option maxRecDepth 20000 in
theorem gX11_moves_X11_notes : GoodIn wsX11_moves (wsV RX11 157 RX11 yX11_notes wsX11_notes) := goodIn_app (goodIn_r _ [15, 16, 17, 6] rfl (by decide +kernel)) ggX11_moves_X11_notes
set_option maxRecDepth 20000 in
theorem ggX11_copy_X11_isCopy : GoodIn wsX11_copy wsX11_isCopy := goodIn_r _ [7, 8, 9, 10, 6, 11, 19, 20, 21, 22, 23, 24, 25, 26, 27, 28, 29, 30, 31, 32, 33, 34, 35, 36, 37, 38, 39, 40, 41] rfl (by decide +kernel)
set_option maxRecDepth 20000 in
theorem gX11_copy_X11_isCopy : GoodIn wsX11_copy (wsV RX11 164 RX11 yX11_isCopy wsX11_isCopy) := goodIn_app (goodIn_r _ [3, 4, 5, 6] rfl (by decide +kernel)) ggX11_copy_X11_isCopy
set_option maxRecDepth 20000 in
theorem ggX11_copy_X11_in : GoodIn wsX11_copy wsX11_in := goodIn_r _ [11] rfl (by decide +kernel)
set_option maxRecDepth 20000 in
theorem gX11_copy_X11_in : GoodIn wsX11_copy (va_wsS RX11 54 yX11_in wsX11_in) := goodIn_app (goodIn_r _ [9, 10, 6] rfl (by decide +kernel)) ggX11_copy_X11_in
set_option maxRecDepth 20000 in
theorem ggX11_copy_X11_newest : GoodIn wsX11_copy wsX11_newest := goodIn_r _ [15, 2, 16, 17, 6, 18, 19, 20, 21, 22, 23, 24, 25, 26, 27, 28, 29, 30, 31, 32, 33, 34, 35, 36, 37, 38, 39, 40, 41] rfl (by decide +kernel)
set_option maxRecDepth 20000 in
theorem gX11_copy_X11_newest : GoodIn wsX11_copy (wsV RX11 167 RX11 yX11_newest wsX11_newest) := goodIn_app (goodIn_r _ [12, 13, 14, 6] rfl (by decide +kernel)) ggX11_copy_X11_newest
set_option maxRecDepth 20000 in
theorem ggX11_group_X11_isGroup : GoodIn wsX11_group wsX11_isGroup := goodIn_r _ [6, 7, 8, 5, 9] rfl (by decide +kernel)
set_option maxRecDepth 20000 in
theorem gX11_group_X11_isGroup : GoodIn wsX11_group (va_wsS RX11 141 yX11_isGroup wsX11_isGroup) := goodIn_app (goodIn_r _ [3, 4, 5] rfl (by decide +kernel)) ggX11_group_X11_isGroup
set_option maxRecDepth 20000 in
theorem ggX11_group_X11_in : GoodIn wsX11_group wsX11_in := goodIn_r _ [9] rfl (by decide +kernel)
set_option maxRecDepth 20000 in
theorem gX11_group_X11_in : GoodIn wsX11_group (va_wsS RX11 54 yX11_in wsX11_in) := goodIn_app (goodIn_r _ [7, 8, 5] rfl (by decide +kernel)) ggX11_group_X11_in
set_option maxRecDepth 20000 in
theorem ggX11_group_X11_present : GoodIn wsX11_group wsX11_present := goodIn_r _ [13, 14, 2, 37, 38, 39, 40, 41, 42, 43, 44, 45, 46, 47, 48, 49, 50, 51, 52, 53, 54, 55, 56, 57, 58, 59] rfl (by decide +kernel)
set_option maxRecDepth 20000 in
theorem gX11_group_X11_present : GoodIn wsX11_group (wsV RX11 145 RX11 yX11_present wsX11_present) := goodIn_app (goodIn_r _ [10, 11, 12, 5] rfl (by decide +kernel)) ggX11_group_X11_present
set_option maxRecDepth 20000 in
theorem ggX11_group_X11_data : GoodIn wsX11_group wsX11_data := goodIn_r _ [18, 14, 2, 19, 20, 21, 5, 22, 23, 24, 25, 37, 38, 39, 40, 41, 42, 43, 44, 45, 46, 47, 48, 49, 50, 51, 52, 53, 54, 55, 56, 57, 58, 59] rfl (by decide +kernel)
set_option maxRecDepth 20000 in
theorem gX11_group_X11_data : GoodIn wsX11_group (wsV RX11 151 RX11 yX11_data wsX11_data) := goodIn_app (goodIn_r _ [15, 16, 17, 5] rfl (by decide +kernel)) ggX11_group_X11_data
set_option maxRecDepth 20000 in
theorem ggX11_group_X11_greatest : GoodIn wsX11_group wsX11_greatest := goodIn_r _ [22, 14, 2, 23, 24, 5, 25, 37, 38, 39, 40, 41, 42, 43, 44, 45, 46, 47, 48, 49, 50, 51, 52, 53, 54, 55, 56, 57, 58, 59] rfl (by decide +kernel)
set_option maxRecDepth 20000 in
theorem gX11_group_X11_greatest : GoodIn wsX11_group (wsV RX11 135 RX11 yX11_greatest wsX11_greatest) := goodIn_app (goodIn_r _ [19, 20, 21, 5] rfl (by decide +kernel)) ggX11_group_X11_greatest
set_option maxRecDepth 20000 in
theorem ggX11_group_X11_confAt : GoodIn wsX11_group wsX11_confAt := goodIn_r _ [28] rfl (by decide +kernel)
set_option maxRecDepth 20000 in
theorem gX11_group_X11_confAt : GoodIn wsX11_group (va_wsS RX11 128 yX11_confAt wsX11_confAt) := goodIn_app (goodIn_r _ [26, 27, 5] rfl (by decide +kernel)) ggX11_group_X11_confAt
set_option maxRecDepth 20000 in
theorem ggX11_group_X11_votesOf : GoodIn wsX11_group wsX11_votesOf := goodIn_r _ [32, 14, 2, 23, 24, 5, 25, 37, 38, 39, 40, 41, 42, 43, 44, 45, 46, 47, 48, 49, 50, 51, 52, 53, 54, 55, 56, 57, 58, 59] rfl (by decide +kernel)
set_option maxRecDepth 20000 in
theorem gX11_group_X11_votesOf : GoodIn wsX11_group (wsV RX11 138 RX11 yX11_votesOf wsX11_votesOf) := goodIn_app (goodIn_r _ [29, 30, 31, 5] rfl (by decide +kernel)) ggX11_group_X11_votesOf
set_option maxRecDepth 20000 in
theorem ggX11_group_X11_isEnough : GoodIn wsX11_group wsX11_isEnough := goodIn_r _ [36, 2, 19, 20, 21, 5, 22, 14, 23, 24, 25, 26, 27, 28, 29, 30, 31, 32, 37, 38, 39, 40, 41, 42, 43, 44, 45, 46, 47, 48, 49, 50, 51, 52, 53, 54, 55, 56, 57, 58, 59] rfl (by decide +kernel)
set_option maxRecDepth 20000 in
theorem gX11_group_X11_isEnough : GoodIn wsX11_group (wsV RX11 148 RX11 yX11_isEnough wsX11_isEnough) := goodIn_app (goodIn_r _ [33, 34, 35, 5] rfl (by decide +kernel)) ggX11_group_X11_isEnough
set_option maxRecDepth 20000 in
theorem ggX11_partOf_X11_has : GoodIn wsX11_partOf wsX11_has := goodIn_r _ [5] rfl (by decide +kernel)
set_option maxRecDepth 20000 in
theorem gX11_partOf_X11_has : GoodIn wsX11_partOf (va_wsS RX11 131 yX11_has wsX11_has) := goodIn_app (goodIn_r _ [2, 3, 4] rfl (by decide +kernel)) ggX11_partOf_X11_has
set_option maxRecDepth 20000 in
theorem ggX11_isEnoughNow_X11_newest : GoodIn wsX11_isEnoughNow wsX11_newest := goodIn_r _ [6, 1, 7, 8, 5, 9, 18, 19, 20, 21, 22, 23, 24, 25, 26, 27, 28, 29, 30, 31, 32, 33, 34, 35, 36, 37, 38, 39, 40] rfl (by decide +kernel)
set_option maxRecDepth 20000 in
theorem gX11_isEnoughNow_X11_newest : GoodIn wsX11_isEnoughNow (wsV RX11 167 RX11 yX11_newest wsX11_newest) := goodIn_app (goodIn_r _ [2, 3, 4, 5] rfl (by decide +kernel)) ggX11_isEnoughNow_X11_newest
set_option maxRecDepth 20000 in
theorem ggX11_isEnoughNow_X11_votesOf : GoodIn wsX11_isEnoughNow wsX11_votesOf := goodIn_r _ [13, 14, 1, 15, 16, 5, 17, 18, 19, 20, 21, 22, 23, 24, 25, 26, 27, 28, 29, 30, 31, 32, 33, 34, 35, 36, 37, 38, 39, 40] rfl (by decide +kernel)
set_option maxRecDepth 20000 in
theorem gX11_isEnoughNow_X11_votesOf : GoodIn wsX11_isEnoughNow (wsV RX11 138 RX11 yX11_votesOf wsX11_votesOf) := goodIn_app (goodIn_r _ [10, 11, 12, 5] rfl (by decide +kernel)) ggX11_isEnoughNow_X11_votesOf
set_option maxRecDepth 20000 in
theorem ggX11_chance_X11_in : GoodIn wsX11_chance wsX11_in := goodIn_r _ [6] rfl (by decide +kernel)
set_option maxRecDepth 20000 in
theorem gX11_chance_X11_in : GoodIn wsX11_chance (va_wsS RX11 54 yX11_in wsX11_in) := goodIn_app (goodIn_r _ [3, 4, 5] rfl (by decide +kernel)) ggX11_chance_X11_in
set_option maxRecDepth 20000 in
theorem ggX11_chance_X11_isEnoughNow : GoodIn wsX11_chance wsX11_isEnoughNow := goodIn_r _ [10, 11, 12, 13, 14, 5, 15, 16, 17, 18, 19, 20, 21, 22, 2, 23, 24, 25, 37, 38, 39, 40, 41, 42, 43, 44, 45, 46, 47, 48, 49, 50, 51, 52, 53, 54, 55, 56, 57, 58, 59] rfl (by decide +kernel)
set_option maxRecDepth 20000 in
theorem gX11_chance_X11_isEnoughNow : GoodIn wsX11_chance (wsV RX11 171 RX11 yX11_isEnoughNow wsX11_isEnoughNow) := goodIn_app (goodIn_r _ [7, 8, 9, 5] rfl (by decide +kernel)) ggX11_chance_X11_isEnoughNow
set_option maxRecDepth 20000 in
theorem ggX11_chance_X11_partOf : GoodIn wsX11_chance wsX11_partOf := goodIn_r _ [29, 2, 23, 24, 5, 25, 37, 38, 39, 40, 41, 42, 43, 44, 45, 46, 47, 48, 49, 50, 51, 52, 53, 54, 55, 56, 57, 58, 59] rfl (by decide +kernel)
set_option maxRecDepth 20000 in
theorem gX11_chance_X11_partOf : GoodIn wsX11_chance (wsV RX11 174 RX11 yX11_partOf wsX11_partOf) := goodIn_app (goodIn_r _ [26, 27, 28, 5] rfl (by decide +kernel)) ggX11_chance_X11_partOf
set_option maxRecDepth 20000 in
theorem ggX11_chance_X11_wholeOf : GoodIn wsX11_chance wsX11_wholeOf := goodIn_r _ [33, 2, 37, 38, 39, 40, 41, 42, 43, 44, 45, 46, 47, 48, 49, 50, 51, 52, 53, 54, 55, 56, 57, 58, 59] rfl (by decide +kernel)
set_option maxRecDepth 20000 in
theorem gX11_chance_X11_wholeOf : GoodIn wsX11_chance (wsV RX11 177 RX11 yX11_wholeOf wsX11_wholeOf) := goodIn_app (goodIn_r _ [30, 31, 32, 5] rfl (by decide +kernel)) ggX11_chance_X11_wholeOf
set_option maxRecDepth 20000 in
theorem ggX11_chance_X11_gcd : GoodIn wsX11_chance wsX11_gcd := goodIn_r _ [36] rfl (by decide +kernel)
set_option maxRecDepth 20000 in
theorem gX11_chance_X11_gcd : GoodIn wsX11_chance (va_wsS RX11 180 yX11_gcd wsX11_gcd) := goodIn_app (goodIn_r _ [34, 35, 5] rfl (by decide +kernel)) ggX11_chance_X11_gcd
set_option maxRecDepth 20000 in
theorem ggX11_least_X11_in : GoodIn wsX11_least wsX11_in := goodIn_r _ [6] rfl (by decide +kernel)
set_option maxRecDepth 20000 in
theorem gX11_least_X11_in : GoodIn wsX11_least (va_wsS RX11 54 yX11_in wsX11_in) := goodIn_app (goodIn_r _ [3, 4, 5] rfl (by decide +kernel)) ggX11_least_X11_in
set_option maxRecDepth 20000 in
theorem ggX11_least_X11_isEnoughNow : GoodIn wsX11_least wsX11_isEnoughNow := goodIn_r _ [10, 11, 12, 13, 14, 5, 15, 16, 17, 18, 19, 20, 21, 22, 2, 23, 24, 25, 29, 30, 31, 32, 33, 34, 35, 36, 37, 38, 39, 40, 41, 42, 43, 44, 45, 46, 47, 48, 49, 50, 51] rfl (by decide +kernel)
set_option maxRecDepth 20000 in
theorem gX11_least_X11_isEnoughNow : GoodIn wsX11_least (wsV RX11 171 RX11 yX11_isEnoughNow wsX11_isEnoughNow) := goodIn_app (goodIn_r _ [7, 8, 9, 5] rfl (by decide +kernel)) ggX11_least_X11_isEnoughNow
set_option maxRecDepth 20000 in
theorem ggX11_least_X11_ones : GoodIn wsX11_least wsX11_ones := goodIn_r _ [28] rfl (by decide +kernel)
set_option maxRecDepth 20000 in
theorem gX11_least_X11_ones : GoodIn wsX11_least (va_wsS RX11 183 yX11_ones wsX11_ones) := goodIn_app (goodIn_r _ [26, 27, 5] rfl (by decide +kernel)) ggX11_least_X11_ones
set_option maxRecDepth 20000 in
theorem ggX11_best_X11_in : GoodIn wsX11_best wsX11_in := goodIn_r _ [8] rfl (by decide +kernel)
set_option maxRecDepth 20000 in
theorem gX11_best_X11_in : GoodIn wsX11_best (va_wsS RX11 54 yX11_in wsX11_in) := goodIn_app (goodIn_r _ [5, 6, 7] rfl (by decide +kernel)) ggX11_best_X11_in
set_option maxRecDepth 20000 in
theorem ggX11_best_X11_partOf : GoodIn wsX11_best wsX11_partOf := goodIn_r _ [12, 2, 13, 14, 7, 15, 21, 22, 23, 24, 25, 26, 27, 28, 29, 30, 31, 32, 33, 34, 35, 36, 37, 38, 39, 40, 41, 42, 43] rfl (by decide +kernel)
set_option maxRecDepth 20000 in
theorem gX11_best_X11_partOf : GoodIn wsX11_best (wsV RX11 174 RX11 yX11_partOf wsX11_partOf) := goodIn_app (goodIn_r _ [9, 10, 11, 7] rfl (by decide +kernel)) ggX11_best_X11_partOf
set_option maxRecDepth 20000 in
theorem ggX11_best_X11_sumsBy : GoodIn wsX11_best wsX11_sumsBy := goodIn_r _ [19, 4, 20, 2, 3, 21, 22, 23, 24, 25, 26, 27, 28, 29, 30, 31, 32, 33, 34, 35, 36, 37, 38, 39, 40, 41, 42, 43] rfl (by decide +kernel)
set_option maxRecDepth 20000 in
theorem gX11_best_X11_sumsBy : GoodIn wsX11_best (wsV RX11 186 RX11 yX11_sumsBy wsX11_sumsBy) := goodIn_app (goodIn_r _ [16, 17, 18, 7] rfl (by decide +kernel)) ggX11_best_X11_sumsBy
set_option maxRecDepth 20000 in
theorem ggX11_sees_X11_in : GoodIn wsX11_sees wsX11_in := goodIn_r _ [8] rfl (by decide +kernel)
set_option maxRecDepth 20000 in
theorem gX11_sees_X11_in : GoodIn wsX11_sees (va_wsS RX11 54 yX11_in wsX11_in) := goodIn_app (goodIn_r _ [5, 6, 7] rfl (by decide +kernel)) ggX11_sees_X11_in
set_option maxRecDepth 20000 in
theorem ggX11_unseen_X11_in : GoodIn wsX11_unseen wsX11_in := goodIn_r _ [9] rfl (by decide +kernel)
set_option maxRecDepth 20000 in
theorem gX11_unseen_X11_in : GoodIn wsX11_unseen (va_wsS RX11 54 yX11_in wsX11_in) := goodIn_app (goodIn_r _ [6, 7, 8] rfl (by decide +kernel)) ggX11_unseen_X11_in
set_option maxRecDepth 20000 in
theorem ggX11_unseen_X11_isEnoughNow : GoodIn wsX11_unseen wsX11_isEnoughNow := goodIn_r _ [13, 14, 15, 16, 17, 8, 18, 19, 20, 21, 22, 23, 24, 25, 2, 26, 27, 28, 29, 30, 31, 32, 33, 34, 35, 36, 37, 38, 39, 40, 41, 42, 43, 44, 45, 46, 47, 48, 49, 50, 51] rfl (by decide +kernel)
set_option maxRecDepth 20000 in
theorem gX11_unseen_X11_isEnoughNow : GoodIn wsX11_unseen (wsV RX11 171 RX11 yX11_isEnoughNow wsX11_isEnoughNow) := goodIn_app (goodIn_r _ [10, 11, 12, 8] rfl (by decide +kernel)) ggX11_unseen_X11_isEnoughNow
set_option maxRecDepth 20000 in
theorem ggX11_keep_X11_in : GoodIn wsX11_keep wsX11_in := goodIn_r _ [9] rfl (by decide +kernel)
set_option maxRecDepth 20000 in
theorem gX11_keep_X11_in : GoodIn wsX11_keep (va_wsS RX11 54 yX11_in wsX11_in) := goodIn_app (goodIn_r _ [6, 7, 8] rfl (by decide +kernel)) ggX11_keep_X11_in
set_option maxRecDepth 20000 in
theorem ggX11_back_X11_in : GoodIn wsX11_back wsX11_in := goodIn_r _ [10] rfl (by decide +kernel)
set_option maxRecDepth 20000 in
theorem gX11_back_X11_in : GoodIn wsX11_back (va_wsS RX11 54 yX11_in wsX11_in) := goodIn_app (goodIn_r _ [7, 8, 9] rfl (by decide +kernel)) ggX11_back_X11_in
set_option maxRecDepth 20000 in
theorem ggX11_count_X11_in : GoodIn wsX11_count wsX11_in := goodIn_r _ [10] rfl (by decide +kernel)
set_option maxRecDepth 20000 in
theorem gX11_count_X11_in : GoodIn wsX11_count (va_wsS RX11 54 yX11_in wsX11_in) := goodIn_app (goodIn_r _ [7, 8, 9] rfl (by decide +kernel)) ggX11_count_X11_in
set_option maxRecDepth 20000 in
theorem ggX11_count_X11_newest : GoodIn wsX11_count wsX11_newest := goodIn_r _ [14, 3, 15, 16, 9, 17, 21, 22, 23, 24, 25, 26, 27, 28, 29, 30, 31, 32, 33, 34, 35, 36, 37, 38, 39, 40, 41, 42, 43] rfl (by decide +kernel)
set_option maxRecDepth 20000 in
theorem gX11_count_X11_newest : GoodIn wsX11_count (wsV RX11 167 RX11 yX11_newest wsX11_newest) := goodIn_app (goodIn_r _ [11, 12, 13, 9] rfl (by decide +kernel)) ggX11_count_X11_newest
set_option maxRecDepth 20000 in
theorem ggX11_count_X11_totalOf : GoodIn wsX11_count wsX11_totalOf := goodIn_r _ [20] rfl (by decide +kernel)
set_option maxRecDepth 20000 in
theorem gX11_count_X11_totalOf : GoodIn wsX11_count (va_wsS RX11 112 yX11_totalOf wsX11_totalOf) := goodIn_app (goodIn_r _ [18, 19, 9] rfl (by decide +kernel)) ggX11_count_X11_totalOf
set_option maxRecDepth 20000 in
theorem ggJ0_length_8abf5_J0_coder_7d493 : GoodIn wsJ0_length_8abf5 wsJ0_coder_7d493 := goodIn_r _ [6, 7, 8] rfl (by decide +kernel)
set_option maxRecDepth 20000 in
theorem gJ0_length_8abf5_J0_coder_7d493 : GoodIn wsJ0_length_8abf5 (wsV RJ0 335 RJ0 yJ0_coder_7d493 wsJ0_coder_7d493) := goodIn_app (goodIn_r _ [2, 3, 4, 5] rfl (by decide +kernel)) ggJ0_length_8abf5_J0_coder_7d493
set_option maxRecDepth 20000 in
theorem ggJ0_charAt_5068e_J0_isLatin1_aae02 : GoodIn wsJ0_charAt_5068e wsJ0_isLatin1_aae02 := goodIn_r _ [6, 7, 8] rfl (by decide +kernel)
set_option maxRecDepth 20000 in
theorem gJ0_charAt_5068e_J0_isLatin1_aae02 : GoodIn wsJ0_charAt_5068e (wsV RJ0 492 RJ0 yJ0_isLatin1_aae02 wsJ0_isLatin1_aae02) := goodIn_app (goodIn_r _ [2, 3, 4, 5] rfl (by decide +kernel)) ggJ0_charAt_5068e_J0_isLatin1_aae02
set_option maxRecDepth 20000 in
theorem ggJ0_charAt_5068e_J1_charAt_3b067 : GoodIn wsJ0_charAt_5068e wsJ1_charAt_3b067 := goodIn_r _ [12, 13, 14, 5, 15, 16, 17, 18, 19, 20] rfl (by decide +kernel)
set_option maxRecDepth 20000 in
theorem gJ0_charAt_5068e_J1_charAt_3b067 : GoodIn wsJ0_charAt_5068e (va_wsS RJ0 495 yJ1_charAt_3b067 wsJ1_charAt_3b067) := goodIn_app (goodIn_r _ [9, 10, 11] rfl (by decide +kernel)) ggJ0_charAt_5068e_J1_charAt_3b067
set_option maxRecDepth 20000 in
theorem ggJ0_charAt_5068e_J2_charAt_3b067 : GoodIn wsJ0_charAt_5068e wsJ2_charAt_3b067 := goodIn_r _ [24, 25, 26, 23, 27, 28, 29, 30, 31, 14, 5, 15, 16, 17, 18, 19, 20, 32, 33, 34, 35, 36, 37] rfl (by decide +kernel)
set_option maxRecDepth 20000 in
theorem gJ0_charAt_5068e_J2_charAt_3b067 : GoodIn wsJ0_charAt_5068e (va_wsS RJ0 498 yJ2_charAt_3b067 wsJ2_charAt_3b067) := goodIn_app (goodIn_r _ [21, 22, 23] rfl (by decide +kernel)) ggJ0_charAt_5068e_J2_charAt_3b067
set_option maxRecDepth 20000 in
theorem ggJ0_checkIndex_df160_J3_checkIndex_8e157 : GoodIn wsJ0_checkIndex_df160 wsJ3_checkIndex_8e157 := goodIn_r _ [5] rfl (by decide +kernel)
set_option maxRecDepth 20000 in
theorem gJ0_checkIndex_df160_J3_checkIndex_8e157 : GoodIn wsJ0_checkIndex_df160 (va_wsS RJ0 1059 yJ3_checkIndex_8e157 wsJ3_checkIndex_8e157) := goodIn_app (goodIn_r _ [2, 3, 4] rfl (by decide +kernel)) ggJ0_checkIndex_df160_J3_checkIndex_8e157
set_option maxRecDepth 20000 in
theorem ggJ1_charAt_3b067_J0_checkIndex_df160 : GoodIn wsJ1_charAt_3b067 wsJ0_checkIndex_df160 := goodIn_r _ [4, 5, 6, 7, 8, 9] rfl (by decide +kernel)
set_option maxRecDepth 20000 in
theorem gJ1_charAt_3b067_J0_checkIndex_df160 : GoodIn wsJ1_charAt_3b067 (va_wsS RJ1 9 yJ0_checkIndex_df160 wsJ0_checkIndex_df160) := goodIn_app (goodIn_r _ [1, 2, 3] rfl (by decide +kernel)) ggJ1_charAt_3b067_J0_checkIndex_df160
set_option maxRecDepth 20000 in
theorem ggJ2_getChar_3b067_J2_length_9d52b : GoodIn wsJ2_getChar_3b067 wsJ2_length_9d52b := goodIn_r _ [7] rfl (by decide +kernel)
set_option maxRecDepth 20000 in
theorem gJ2_getChar_3b067_J2_length_9d52b : GoodIn wsJ2_getChar_3b067 (va_wsS RJ2 48 yJ2_length_9d52b wsJ2_length_9d52b) := goodIn_app (goodIn_r _ [4, 5, 6] rfl (by decide +kernel)) ggJ2_getChar_3b067_J2_length_9d52b
set_option maxRecDepth 20000 in
theorem ggJ2_charAt_3b067_J2_checkIndex_2214a : GoodIn wsJ2_charAt_3b067 wsJ2_checkIndex_2214a := goodIn_r _ [4, 5, 6, 3, 7, 8, 9, 10, 11, 12, 13, 14, 15, 16] rfl (by decide +kernel)
set_option maxRecDepth 20000 in
theorem gJ2_charAt_3b067_J2_checkIndex_2214a : GoodIn wsJ2_charAt_3b067 (va_wsS RJ2 67 yJ2_checkIndex_2214a wsJ2_checkIndex_2214a) := goodIn_app (goodIn_r _ [1, 2, 3] rfl (by decide +kernel)) ggJ2_charAt_3b067_J2_checkIndex_2214a
set_option maxRecDepth 20000 in
theorem ggJ2_charAt_3b067_J2_getChar_3b067 : GoodIn wsJ2_charAt_3b067 wsJ2_getChar_3b067 := goodIn_r _ [19, 20, 21, 22, 5, 6, 3, 7] rfl (by decide +kernel)
set_option maxRecDepth 20000 in
theorem gJ2_charAt_3b067_J2_getChar_3b067 : GoodIn wsJ2_charAt_3b067 (va_wsS RJ2 71 yJ2_getChar_3b067 wsJ2_getChar_3b067) := goodIn_app (goodIn_r _ [17, 18, 3] rfl (by decide +kernel)) ggJ2_charAt_3b067_J2_getChar_3b067
set_option maxRecDepth 20000 in
theorem ggJ2_checkIndex_2214a_J2_length_9d52b : GoodIn wsJ2_checkIndex_2214a wsJ2_length_9d52b := goodIn_r _ [4] rfl (by decide +kernel)
set_option maxRecDepth 20000 in
theorem gJ2_checkIndex_2214a_J2_length_9d52b : GoodIn wsJ2_checkIndex_2214a (va_wsS RJ2 48 yJ2_length_9d52b wsJ2_length_9d52b) := goodIn_app (goodIn_r _ [1, 2, 3] rfl (by decide +kernel)) ggJ2_checkIndex_2214a_J2_length_9d52b
set_option maxRecDepth 20000 in
theorem ggJ2_checkIndex_2214a_J0_checkIndex_df160 : GoodIn wsJ2_checkIndex_2214a wsJ0_checkIndex_df160 := goodIn_r _ [8, 9, 10, 11, 12, 13] rfl (by decide +kernel)
set_option maxRecDepth 20000 in
theorem gJ2_checkIndex_2214a_J0_checkIndex_df160 : GoodIn wsJ2_checkIndex_2214a (va_wsS RJ2 414 yJ0_checkIndex_df160 wsJ0_checkIndex_df160) := goodIn_app (goodIn_r _ [5, 6, 7] rfl (by decide +kernel)) ggJ2_checkIndex_2214a_J0_checkIndex_df160

