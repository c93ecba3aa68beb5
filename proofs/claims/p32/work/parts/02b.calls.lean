set_option maxRecDepth 20000 in
theorem ggX1_init_X2_init : GoodIn wsX1_init wsX2_init := goodIn_r _ [10, 11, 2, 3, 12, 13, 14, 15, 16, 17, 18, 19, 20, 24, 25, 26, 27, 28, 29, 30, 31, 32, 33, 34] (by decide +kernel) (by decide +kernel)
set_option maxRecDepth 20000 in
theorem gX1_init_X2_init : GoodIn wsX1_init (wsX2_init) := ggX1_init_X2_init
set_option maxRecDepth 20000 in
theorem ggX1_save_X2_copyFrom : GoodIn wsX1_save wsX2_copyFrom := goodIn_r _ [8, 9, 10, 11, 12, 13, 14, 15, 16, 17, 18, 19, 20, 21, 22, 23, 27, 28, 29, 30, 31, 32, 33, 34, 35, 36, 37] (by decide +kernel) (by decide +kernel)
set_option maxRecDepth 20000 in
theorem gX1_save_X2_copyFrom : GoodIn wsX1_save (wsV RX1 22 RX2 yX2_copyFrom wsX2_copyFrom) := goodIn_app (goodIn_of _ (by decide +kernel)) ggX1_save_X2_copyFrom
set_option maxRecDepth 20000 in
theorem ggX2_waitedFor_X2_rivalHolders : GoodIn wsX2_waitedFor wsX2_rivalHolders := goodIn_r _ [7, 8, 15, 16, 17, 18, 19, 20, 21, 22, 23, 24, 25] (by decide +kernel) (by decide +kernel)
set_option maxRecDepth 20000 in
theorem gX2_waitedFor_X2_rivalHolders : GoodIn wsX2_waitedFor (wsV RX2 52 RX2 yX2_rivalHolders wsX2_rivalHolders) := goodIn_app (goodIn_of _ (by decide +kernel)) ggX2_waitedFor_X2_rivalHolders
set_option maxRecDepth 20000 in
theorem ggX2_waitedFor_X2_rivalsAhead : GoodIn wsX2_waitedFor wsX2_rivalsAhead := goodIn_r _ [12, 13, 14, 2, 15, 16, 17, 18, 19, 20, 21, 22, 23, 24, 25] (by decide +kernel) (by decide +kernel)
set_option maxRecDepth 20000 in
theorem gX2_waitedFor_X2_rivalsAhead : GoodIn wsX2_waitedFor (wsV RX2 56 RX2 yX2_rivalsAhead wsX2_rivalsAhead) := goodIn_app (goodIn_of _ (by decide +kernel)) ggX2_waitedFor_X2_rivalsAhead
set_option maxRecDepth 20000 in
theorem ggX2_allWaitedFor_X2_waitedFor : GoodIn wsX2_allWaitedFor wsX2_waitedFor := goodIn_r _ [5, 6, 7, 8, 9, 10, 4, 11, 12, 13, 14, 15, 16, 17, 18, 19, 20, 21, 22, 23, 24, 25, 26, 27, 28, 29] (by decide +kernel) (by decide +kernel)
set_option maxRecDepth 20000 in
theorem gX2_allWaitedFor_X2_waitedFor : GoodIn wsX2_allWaitedFor (wsV RX2 60 RX2 yX2_waitedFor wsX2_waitedFor) := goodIn_app (goodIn_of _ (by decide +kernel)) ggX2_allWaitedFor_X2_waitedFor
set_option maxRecDepth 20000 in
theorem ggX2_place_X2_rivalHolders : GoodIn wsX2_place wsX2_rivalHolders := goodIn_r _ [8, 1, 24, 25, 26, 27, 28, 29, 30, 31, 32, 33, 34] (by decide +kernel) (by decide +kernel)
set_option maxRecDepth 20000 in
theorem gX2_place_X2_rivalHolders : GoodIn wsX2_place (wsV RX2 52 RX2 yX2_rivalHolders wsX2_rivalHolders) := goodIn_app (goodIn_of _ (by decide +kernel)) ggX2_place_X2_rivalHolders
set_option maxRecDepth 20000 in
theorem ggX2_place_X2_grant : GoodIn wsX2_place wsX2_grant := goodIn_r _ [12, 1, 13, 24, 25, 26, 27, 28, 29, 30, 31, 32, 33, 34] (by decide +kernel) (by decide +kernel)
set_option maxRecDepth 20000 in
theorem gX2_place_X2_grant : GoodIn wsX2_place (wsV RX2 64 RX2 yX2_grant wsX2_grant) := goodIn_app (goodIn_of _ (by decide +kernel)) ggX2_place_X2_grant
set_option maxRecDepth 20000 in
theorem ggX2_place_X2_countUpgrades : GoodIn wsX2_place wsX2_countUpgrades := goodIn_r _ [17, 2, 18, 1, 24, 25, 26, 27, 28, 29, 30, 31, 32, 33, 34] (by decide +kernel) (by decide +kernel)
set_option maxRecDepth 20000 in
theorem gX2_place_X2_countUpgrades : GoodIn wsX2_place (wsV RX2 68 RX2 yX2_countUpgrades wsX2_countUpgrades) := goodIn_app (goodIn_of _ (by decide +kernel)) ggX2_place_X2_countUpgrades
set_option maxRecDepth 20000 in
theorem ggX2_place_X2_insertRequest : GoodIn wsX2_place wsX2_insertRequest := goodIn_r _ [22, 2, 18, 23, 24, 25, 26, 27, 28, 29, 30, 31, 32, 33, 34] (by decide +kernel) (by decide +kernel)
set_option maxRecDepth 20000 in
theorem gX2_place_X2_insertRequest : GoodIn wsX2_place (wsV RX2 71 RX2 yX2_insertRequest wsX2_insertRequest) := goodIn_app (goodIn_of _ (by decide +kernel)) ggX2_place_X2_insertRequest
set_option maxRecDepth 20000 in
theorem ggX2_serveQueues_X2_serveFirst : GoodIn wsX2_serveQueues wsX2_serveFirst := goodIn_r _ [5, 6, 7, 8, 9, 10, 11, 4, 12, 13, 14, 15, 16, 17, 18, 19, 20, 21, 22, 23, 24, 25, 26, 27, 28, 29, 30, 31, 32, 33, 34] (by decide +kernel) (by decide +kernel)
set_option maxRecDepth 20000 in
theorem gX2_serveQueues_X2_serveFirst : GoodIn wsX2_serveQueues (wsV RX2 74 RX2 yX2_serveFirst wsX2_serveFirst) := goodIn_app (goodIn_of _ (by decide +kernel)) ggX2_serveQueues_X2_serveFirst
set_option maxRecDepth 20000 in
theorem ggX2_serveFirst_X2_rivalHolders : GoodIn wsX2_serveFirst wsX2_rivalHolders := goodIn_r _ [8, 9, 20, 21, 22, 23, 24, 25, 26, 27, 28, 29, 30] (by decide +kernel) (by decide +kernel)
set_option maxRecDepth 20000 in
theorem gX2_serveFirst_X2_rivalHolders : GoodIn wsX2_serveFirst (wsV RX2 52 RX2 yX2_rivalHolders wsX2_rivalHolders) := goodIn_app (goodIn_of _ (by decide +kernel)) ggX2_serveFirst_X2_rivalHolders
set_option maxRecDepth 20000 in
theorem ggX2_serveFirst_X2_removeRequest : GoodIn wsX2_serveFirst wsX2_removeRequest := goodIn_r _ [13, 14, 1, 2, 20, 21, 22, 23, 24, 25, 26, 27, 28, 29, 30] (by decide +kernel) (by decide +kernel)
set_option maxRecDepth 20000 in
theorem gX2_serveFirst_X2_removeRequest : GoodIn wsX2_serveFirst (wsV RX2 78 RX2 yX2_removeRequest wsX2_removeRequest) := goodIn_app (goodIn_of _ (by decide +kernel)) ggX2_serveFirst_X2_removeRequest
set_option maxRecDepth 20000 in
theorem ggX2_serveFirst_X2_grant : GoodIn wsX2_serveFirst wsX2_grant := goodIn_r _ [18, 9, 19, 20, 21, 22, 23, 24, 25, 26, 27, 28, 29, 30] (by decide +kernel) (by decide +kernel)
set_option maxRecDepth 20000 in
theorem gX2_serveFirst_X2_grant : GoodIn wsX2_serveFirst (wsV RX2 64 RX2 yX2_grant wsX2_grant) := goodIn_app (goodIn_of _ (by decide +kernel)) ggX2_serveFirst_X2_grant
set_option maxRecDepth 20000 in
theorem ggX2_takeBack_X2_removeRequest : GoodIn wsX2_takeBack wsX2_removeRequest := goodIn_r _ [5, 6, 7, 8, 28, 29, 30, 31, 32, 33, 34, 35, 36, 37, 38] (by decide +kernel) (by decide +kernel)
set_option maxRecDepth 20000 in
theorem gX2_takeBack_X2_removeRequest : GoodIn wsX2_takeBack (wsV RX2 78 RX2 yX2_removeRequest wsX2_removeRequest) := goodIn_app (goodIn_of _ (by decide +kernel)) ggX2_takeBack_X2_removeRequest
set_option maxRecDepth 20000 in
theorem ggX2_takeBack_X2_serveQueues : GoodIn wsX2_takeBack wsX2_serveQueues := goodIn_r _ [12, 13, 14, 15, 4, 16, 7, 8, 17, 18, 19, 20, 21, 22, 1, 2, 3, 5, 6, 23, 24, 25, 26, 27, 28, 29, 30, 31, 32, 33, 34, 35, 36, 37, 38] (by decide +kernel) (by decide +kernel)
set_option maxRecDepth 20000 in
theorem gX2_takeBack_X2_serveQueues : GoodIn wsX2_takeBack (wsV RX2 82 RX2 yX2_serveQueues wsX2_serveQueues) := goodIn_app (goodIn_of _ (by decide +kernel)) ggX2_takeBack_X2_serveQueues
set_option maxRecDepth 20000 in
theorem ggX2_end_X2_removeRequest : GoodIn wsX2_end wsX2_removeRequest := goodIn_r _ [8, 9, 10, 11, 34, 35, 36, 37, 38, 39, 40, 41, 42, 43, 44] (by decide +kernel) (by decide +kernel)
set_option maxRecDepth 20000 in
theorem gX2_end_X2_removeRequest : GoodIn wsX2_end (wsV RX2 78 RX2 yX2_removeRequest wsX2_removeRequest) := goodIn_app (goodIn_of _ (by decide +kernel)) ggX2_end_X2_removeRequest
set_option maxRecDepth 20000 in
theorem ggX2_end_X2_releaseLocks : GoodIn wsX2_end wsX2_releaseLocks := goodIn_r _ [15, 16, 34, 35, 36, 37, 38, 39, 40, 41, 42, 43, 44] (by decide +kernel) (by decide +kernel)
set_option maxRecDepth 20000 in
theorem gX2_end_X2_releaseLocks : GoodIn wsX2_end (wsV RX2 86 RX2 yX2_releaseLocks wsX2_releaseLocks) := goodIn_app (goodIn_of _ (by decide +kernel)) ggX2_end_X2_releaseLocks
set_option maxRecDepth 20000 in
theorem ggX2_end_X2_serveQueues : GoodIn wsX2_end wsX2_serveQueues := goodIn_r _ [20, 21, 22, 23, 7, 24, 10, 11, 25, 26, 27, 28, 29, 16, 4, 5, 6, 8, 9, 30, 31, 32, 33, 2, 34, 35, 36, 37, 38, 39, 40, 41, 42, 43, 44] (by decide +kernel) (by decide +kernel)
set_option maxRecDepth 20000 in
theorem gX2_end_X2_serveQueues : GoodIn wsX2_end (wsV RX2 82 RX2 yX2_serveQueues wsX2_serveQueues) := goodIn_app (goodIn_of _ (by decide +kernel)) ggX2_end_X2_serveQueues
set_option maxRecDepth 20000 in
theorem ggX2_abort_X2_removeRequest : GoodIn wsX2_abort wsX2_removeRequest := goodIn_r _ [9, 10, 11, 12, 18, 19, 20, 21, 22, 23, 24, 25, 26, 27, 28] (by decide +kernel) (by decide +kernel)
set_option maxRecDepth 20000 in
theorem gX2_abort_X2_removeRequest : GoodIn wsX2_abort (wsV RX2 78 RX2 yX2_removeRequest wsX2_removeRequest) := goodIn_app (goodIn_of _ (by decide +kernel)) ggX2_abort_X2_removeRequest
set_option maxRecDepth 20000 in
theorem ggX2_abort_X2_releaseLocks : GoodIn wsX2_abort wsX2_releaseLocks := goodIn_r _ [16, 17, 18, 19, 20, 21, 22, 23, 24, 25, 26, 27, 28] (by decide +kernel) (by decide +kernel)
set_option maxRecDepth 20000 in
theorem gX2_abort_X2_releaseLocks : GoodIn wsX2_abort (wsV RX2 86 RX2 yX2_releaseLocks wsX2_releaseLocks) := goodIn_app (goodIn_of _ (by decide +kernel)) ggX2_abort_X2_releaseLocks
set_option maxRecDepth 20000 in
theorem ggX3_breakRings_X3_measure : GoodIn wsX3_breakRings wsX3_measure := goodIn_r _ [5, 6, 7, 8, 9, 10, 11, 12, 13, 14, 15, 16, 17, 18, 19, 20, 21, 22, 23, 24, 25, 73, 74, 75, 76, 77, 78, 79, 80, 81, 82, 83, 84, 85] (by decide +kernel) (by decide +kernel)
set_option maxRecDepth 20000 in
theorem gX3_breakRings_X3_measure : GoodIn wsX3_breakRings (wsV RX3 18 RX3 yX3_measure wsX3_measure) := goodIn_app (goodIn_of _ (by decide +kernel)) ggX3_breakRings_X3_measure
set_option maxRecDepth 20000 in
theorem ggX3_breakRings_X3_shortestRing : GoodIn wsX3_breakRings wsX3_shortestRing := goodIn_r _ [29, 6, 30, 31, 32, 4, 33, 7, 73, 74] (by decide +kernel) (by decide +kernel)
set_option maxRecDepth 20000 in
theorem gX3_breakRings_X3_shortestRing : GoodIn wsX3_breakRings (wsV RX3 22 RX3 yX3_shortestRing wsX3_shortestRing) := goodIn_app (goodIn_of _ (by decide +kernel)) ggX3_breakRings_X3_shortestRing
set_option maxRecDepth 20000 in
theorem ggX3_breakRings_X3_chooseVictim : GoodIn wsX3_breakRings wsX3_chooseVictim := goodIn_r _ [37, 38, 39, 40, 4, 41, 42, 43, 44, 75, 76, 77, 78, 79, 80, 81, 82, 83, 84, 85] (by decide +kernel) (by decide +kernel)
set_option maxRecDepth 20000 in
theorem gX3_breakRings_X3_chooseVictim : GoodIn wsX3_breakRings (wsV RX3 26 RX3 yX3_chooseVictim wsX3_chooseVictim) := goodIn_app (goodIn_of _ (by decide +kernel)) ggX3_breakRings_X3_chooseVictim
set_option maxRecDepth 20000 in
theorem ggX3_breakRings_X2_abort : GoodIn wsX3_breakRings wsX2_abort := goodIn_r _ [48, 49, 50, 51, 52, 53, 54, 55, 11, 56, 13, 24, 25, 57, 58, 59, 60, 19, 75, 76, 77, 78, 79, 80, 81, 82, 83, 84, 85] (by decide +kernel) (by decide +kernel)
set_option maxRecDepth 20000 in
theorem gX3_breakRings_X2_abort : GoodIn wsX3_breakRings (wsV RX3 30 RX2 yX2_abort wsX2_abort) := goodIn_app (goodIn_of _ (by decide +kernel)) ggX3_breakRings_X2_abort
set_option maxRecDepth 20000 in
theorem ggX3_breakRings_X2_serveQueues : GoodIn wsX3_breakRings wsX2_serveQueues := goodIn_r _ [64, 65, 66, 67, 11, 68, 24, 25, 14, 15, 16, 17, 18, 19, 53, 54, 55, 56, 13, 69, 70, 71, 72, 51, 75, 76, 77, 78, 79, 80, 81, 82, 83, 84, 85] (by decide +kernel) (by decide +kernel)
set_option maxRecDepth 20000 in
theorem gX3_breakRings_X2_serveQueues : GoodIn wsX3_breakRings (wsV RX3 36 RX2 yX2_serveQueues wsX2_serveQueues) := goodIn_app (goodIn_of _ (by decide +kernel)) ggX3_breakRings_X2_serveQueues
set_option maxRecDepth 20000 in
theorem ggX3_measure_X2_waitedFor : GoodIn wsX3_measure wsX2_waitedFor := goodIn_r _ [7, 8, 9, 10, 11, 12, 6, 13, 14, 15, 16, 17, 18, 19, 20, 23, 24, 25, 26, 27, 28, 29, 30, 31, 32, 33] (by decide +kernel) (by decide +kernel)
set_option maxRecDepth 20000 in
theorem gX3_measure_X2_waitedFor : GoodIn wsX3_measure (wsV RX3 40 RX2 yX2_waitedFor wsX2_waitedFor) := goodIn_app (goodIn_of _ (by decide +kernel)) ggX3_measure_X2_waitedFor
set_option maxRecDepth 20000 in
theorem ggX3_shortestRing_X3_nearest : GoodIn wsX3_shortestRing wsX3_nearest := goodIn_r _ [6, 7, 8, 9] (by decide +kernel) (by decide +kernel)
set_option maxRecDepth 20000 in
theorem gX3_shortestRing_X3_nearest : GoodIn wsX3_shortestRing (wsV RX3 43 RX3 yX3_nearest wsX3_nearest) := goodIn_app (goodIn_of _ (by decide +kernel)) ggX3_shortestRing_X3_nearest
set_option maxRecDepth 20000 in
theorem ggX3_chooseVictim_X3_goesBefore : GoodIn wsX3_chooseVictim wsX3_goesBefore := goodIn_r _ [5, 6, 7, 8, 9, 10, 11, 12, 13, 14, 15, 16, 17, 18, 19] (by decide +kernel) (by decide +kernel)
set_option maxRecDepth 20000 in
theorem gX3_chooseVictim_X3_goesBefore : GoodIn wsX3_chooseVictim (wsV RX3 46 RX3 yX3_goesBefore wsX3_goesBefore) := goodIn_app (goodIn_of _ (by decide +kernel)) ggX3_chooseVictim_X3_goesBefore
