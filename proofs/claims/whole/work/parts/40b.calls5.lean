set_option maxRecDepth 20000 in
theorem ggX5_init_X5_end : GoodIn wsX5_init wsX5_end := goodIn_r _ [15, 16, 17, 18, 14, 19, 5, 20, 21, 22, 23, 24, 25, 26, 27, 28, 29, 30, 31, 32, 33] (by decide +kernel) (by decide +kernel)
set_option maxRecDepth 20000 in
theorem gX5_init_X5_end : GoodIn wsX5_init (wsV RX5 28 RX5 yX5_end wsX5_end) := goodIn_app (goodIn_of _ (by decide +kernel)) ggX5_init_X5_end
set_option maxRecDepth 20000 in
theorem ggX5_isTransaction_X5_in : GoodIn wsX5_isTransaction wsX5_in := goodIn_r _ [4] (by decide +kernel) (by decide +kernel)
set_option maxRecDepth 20000 in
theorem gX5_isTransaction_X5_in : GoodIn wsX5_isTransaction (va_wsS RX5 36 yX5_in wsX5_in) := goodIn_app (goodIn_of _ (by decide +kernel)) ggX5_isTransaction_X5_in
set_option maxRecDepth 20000 in
theorem ggX5_isResource_X5_in : GoodIn wsX5_isResource wsX5_in := goodIn_r _ [4] (by decide +kernel) (by decide +kernel)
set_option maxRecDepth 20000 in
theorem gX5_isResource_X5_in : GoodIn wsX5_isResource (va_wsS RX5 36 yX5_in wsX5_in) := goodIn_app (goodIn_of _ (by decide +kernel)) ggX5_isResource_X5_in
set_option maxRecDepth 20000 in
theorem ggX5_isMode_X5_in : GoodIn wsX5_isMode wsX5_in := goodIn_r _ [4] (by decide +kernel) (by decide +kernel)
set_option maxRecDepth 20000 in
theorem gX5_isMode_X5_in : GoodIn wsX5_isMode (va_wsS RX5 36 yX5_in wsX5_in) := goodIn_app (goodIn_of _ (by decide +kernel)) ggX5_isMode_X5_in
set_option maxRecDepth 20000 in
theorem ggX5_isActive_X5_of : GoodIn wsX5_isActive wsX5_of := goodIn_r _ [5, 6, 7, 8, 9, 10, 11, 12, 13, 14, 15, 16, 17, 18, 19, 20] (by decide +kernel) (by decide +kernel)
set_option maxRecDepth 20000 in
theorem gX5_isActive_X5_of : GoodIn wsX5_isActive (wsV RX5 40 RX5 yX5_of wsX5_of) := goodIn_app (goodIn_of _ (by decide +kernel)) ggX5_isActive_X5_of
set_option maxRecDepth 20000 in
theorem ggX5_end_X5_put : GoodIn wsX5_end wsX5_put := goodIn_r _ [5, 6, 7, 8, 9, 10, 11, 12, 13, 14, 15, 16, 17, 18, 19, 20] (by decide +kernel) (by decide +kernel)
set_option maxRecDepth 20000 in
theorem gX5_end_X5_put : GoodIn wsX5_end (wsV RX5 44 RX5 yX5_put wsX5_put) := goodIn_app (goodIn_of _ (by decide +kernel)) ggX5_end_X5_put
set_option maxRecDepth 20000 in
theorem ggX5_canHold_X5_lock : GoodIn wsX5_canHold wsX5_lock := goodIn_r _ [5, 6, 10, 11, 12, 13, 14, 15, 16, 17, 18, 19, 20, 21, 22, 23] (by decide +kernel) (by decide +kernel)
set_option maxRecDepth 20000 in
theorem gX5_canHold_X5_lock : GoodIn wsX5_canHold (wsV RX5 51 RX5 yX5_lock wsX5_lock) := goodIn_app (goodIn_of _ (by decide +kernel)) ggX5_canHold_X5_lock
set_option maxRecDepth 20000 in
theorem ggX5_canHold_X5_isCompatible : GoodIn wsX5_canHold wsX5_isCompatible := goodIn_r _ [9] (by decide +kernel) (by decide +kernel)
set_option maxRecDepth 20000 in
theorem gX5_canHold_X5_isCompatible : GoodIn wsX5_canHold (va_wsS RX5 54 yX5_isCompatible wsX5_isCompatible) := goodIn_app (goodIn_of _ (by decide +kernel)) ggX5_canHold_X5_isCompatible
set_option maxRecDepth 20000 in
theorem ggX5_isOnlyHolder_X5_lock : GoodIn wsX5_isOnlyHolder wsX5_lock := goodIn_r _ [5, 6, 7, 8, 9, 10, 11, 12, 13, 14, 15, 16, 17, 18, 19, 20] (by decide +kernel) (by decide +kernel)
set_option maxRecDepth 20000 in
theorem gX5_isOnlyHolder_X5_lock : GoodIn wsX5_isOnlyHolder (wsV RX5 51 RX5 yX5_lock wsX5_lock) := goodIn_app (goodIn_of _ (by decide +kernel)) ggX5_isOnlyHolder_X5_lock
set_option maxRecDepth 20000 in
theorem ggX5_grant_X5_setLock : GoodIn wsX5_grant wsX5_setLock := goodIn_r _ [5, 6, 15, 16, 17, 18, 19, 20, 21, 22, 23, 24, 25, 26, 27, 28] (by decide +kernel) (by decide +kernel)
set_option maxRecDepth 20000 in
theorem gX5_grant_X5_setLock : GoodIn wsX5_grant (wsV RX5 58 RX5 yX5_setLock wsX5_setLock) := goodIn_app (goodIn_of _ (by decide +kernel)) ggX5_grant_X5_setLock
set_option maxRecDepth 20000 in
theorem ggX5_grant_X5_of : GoodIn wsX5_grant wsX5_of := goodIn_r _ [10, 6, 15, 16, 17, 18, 19, 20, 21, 22, 23, 24, 25, 26, 27, 28] (by decide +kernel) (by decide +kernel)
set_option maxRecDepth 20000 in
theorem gX5_grant_X5_of : GoodIn wsX5_grant (wsV RX5 40 RX5 yX5_of wsX5_of) := goodIn_app (goodIn_of _ (by decide +kernel)) ggX5_grant_X5_of
set_option maxRecDepth 20000 in
theorem ggX5_grant_X5_put : GoodIn wsX5_grant wsX5_put := goodIn_r _ [14, 6, 15, 16, 17, 18, 19, 20, 21, 22, 23, 24, 25, 26, 27, 28] (by decide +kernel) (by decide +kernel)
set_option maxRecDepth 20000 in
theorem gX5_grant_X5_put : GoodIn wsX5_grant (wsV RX5 44 RX5 yX5_put wsX5_put) := goodIn_app (goodIn_of _ (by decide +kernel)) ggX5_grant_X5_put
set_option maxRecDepth 20000 in
theorem ggX5_isUpgrade_X5_lock : GoodIn wsX5_isUpgrade wsX5_lock := goodIn_r _ [5, 6, 7, 8, 9, 10, 11, 12, 13, 14, 15, 16, 17, 18, 19, 20] (by decide +kernel) (by decide +kernel)
set_option maxRecDepth 20000 in
theorem gX5_isUpgrade_X5_lock : GoodIn wsX5_isUpgrade (wsV RX5 51 RX5 yX5_lock wsX5_lock) := goodIn_app (goodIn_of _ (by decide +kernel)) ggX5_isUpgrade_X5_lock
set_option maxRecDepth 20000 in
theorem ggX5_enqueue_X5_queueOf : GoodIn wsX5_enqueue wsX5_queueOf := goodIn_r _ [6, 1, 11, 12, 13, 14, 15, 16, 17, 18, 19, 20, 21, 22, 23, 24] (by decide +kernel) (by decide +kernel)
set_option maxRecDepth 20000 in
theorem gX5_enqueue_X5_queueOf : GoodIn wsX5_enqueue (wsV RX5 61 RX5 yX5_queueOf wsX5_queueOf) := goodIn_app (goodIn_of _ (by decide +kernel)) ggX5_enqueue_X5_queueOf
set_option maxRecDepth 20000 in
theorem ggX5_enqueue_X5_put : GoodIn wsX5_enqueue wsX5_put := goodIn_r _ [10, 1, 11, 12, 13, 14, 15, 16, 17, 18, 19, 20, 21, 22, 23, 24] (by decide +kernel) (by decide +kernel)
set_option maxRecDepth 20000 in
theorem gX5_enqueue_X5_put : GoodIn wsX5_enqueue (wsV RX5 44 RX5 yX5_put wsX5_put) := goodIn_app (goodIn_of _ (by decide +kernel)) ggX5_enqueue_X5_put
set_option maxRecDepth 20000 in
theorem ggX5_indexOf_X5_of : GoodIn wsX5_indexOf wsX5_of := goodIn_r _ [5, 6, 11, 12, 13, 14, 15, 16, 17, 18, 19, 20, 21, 22, 23, 24] (by decide +kernel) (by decide +kernel)
set_option maxRecDepth 20000 in
theorem gX5_indexOf_X5_of : GoodIn wsX5_indexOf (wsV RX5 40 RX5 yX5_of wsX5_of) := goodIn_app (goodIn_of _ (by decide +kernel)) ggX5_indexOf_X5_of
set_option maxRecDepth 20000 in
theorem ggX5_indexOf_X5_queuedAt : GoodIn wsX5_indexOf wsX5_queuedAt := goodIn_r _ [10, 6, 11, 12, 13, 14, 15, 16, 17, 18, 19, 20, 21, 22, 23, 24] (by decide +kernel) (by decide +kernel)
set_option maxRecDepth 20000 in
theorem gX5_indexOf_X5_queuedAt : GoodIn wsX5_indexOf (wsV RX5 65 RX5 yX5_queuedAt wsX5_queuedAt) := goodIn_app (goodIn_of _ (by decide +kernel)) ggX5_indexOf_X5_queuedAt
set_option maxRecDepth 20000 in
theorem ggX5_dequeue_X5_of : GoodIn wsX5_dequeue wsX5_of := goodIn_r _ [6, 1, 23, 24, 25, 26, 27, 28, 29, 30, 31, 32, 33, 34, 35, 36] (by decide +kernel) (by decide +kernel)
set_option maxRecDepth 20000 in
theorem gX5_dequeue_X5_of : GoodIn wsX5_dequeue (wsV RX5 40 RX5 yX5_of wsX5_of) := goodIn_app (goodIn_of _ (by decide +kernel)) ggX5_dequeue_X5_of
set_option maxRecDepth 20000 in
theorem ggX5_dequeue_X5_indexOf : GoodIn wsX5_dequeue wsX5_indexOf := goodIn_r _ [10, 2, 3, 4, 5, 6, 1, 11, 12, 13, 14, 23, 24, 25, 26, 27, 28, 29, 30, 31, 32, 33, 34, 35, 36] (by decide +kernel) (by decide +kernel)
set_option maxRecDepth 20000 in
theorem gX5_dequeue_X5_indexOf : GoodIn wsX5_dequeue (wsV RX5 68 RX5 yX5_indexOf wsX5_indexOf) := goodIn_app (goodIn_of _ (by decide +kernel)) ggX5_dequeue_X5_indexOf
set_option maxRecDepth 20000 in
theorem ggX5_dequeue_X5_queueOf : GoodIn wsX5_dequeue wsX5_queueOf := goodIn_r _ [18, 1, 23, 24, 25, 26, 27, 28, 29, 30, 31, 32, 33, 34, 35, 36] (by decide +kernel) (by decide +kernel)
set_option maxRecDepth 20000 in
theorem gX5_dequeue_X5_queueOf : GoodIn wsX5_dequeue (wsV RX5 61 RX5 yX5_queueOf wsX5_queueOf) := goodIn_app (goodIn_of _ (by decide +kernel)) ggX5_dequeue_X5_queueOf
set_option maxRecDepth 20000 in
theorem ggX5_dequeue_X5_put : GoodIn wsX5_dequeue wsX5_put := goodIn_r _ [22, 1, 23, 24, 25, 26, 27, 28, 29, 30, 31, 32, 33, 34, 35, 36] (by decide +kernel) (by decide +kernel)
set_option maxRecDepth 20000 in
theorem gX5_dequeue_X5_put : GoodIn wsX5_dequeue (wsV RX5 44 RX5 yX5_put wsX5_put) := goodIn_app (goodIn_of _ (by decide +kernel)) ggX5_dequeue_X5_put
set_option maxRecDepth 20000 in
theorem ggX5_release_X5_setLock : GoodIn wsX5_release wsX5_setLock := goodIn_r _ [5, 6, 7, 8, 9, 10, 11, 12, 13, 14, 15, 16, 17, 18, 19, 20] (by decide +kernel) (by decide +kernel)
set_option maxRecDepth 20000 in
theorem gX5_release_X5_setLock : GoodIn wsX5_release (wsV RX5 58 RX5 yX5_setLock wsX5_setLock) := goodIn_app (goodIn_of _ (by decide +kernel)) ggX5_release_X5_setLock
set_option maxRecDepth 20000 in
theorem ggX5_serve_X5_queueOf : GoodIn wsX5_serve wsX5_queueOf := goodIn_r _ [5, 6, 46, 47, 48, 49, 50, 51, 52, 53, 54, 55, 56, 57, 58, 59] (by decide +kernel) (by decide +kernel)
set_option maxRecDepth 20000 in
theorem gX5_serve_X5_queueOf : GoodIn wsX5_serve (wsV RX5 61 RX5 yX5_queueOf wsX5_queueOf) := goodIn_app (goodIn_of _ (by decide +kernel)) ggX5_serve_X5_queueOf
set_option maxRecDepth 20000 in
theorem ggX5_serve_X5_queuedAt : GoodIn wsX5_serve wsX5_queuedAt := goodIn_r _ [10, 6, 46, 47, 48, 49, 50, 51, 52, 53, 54, 55, 56, 57, 58, 59] (by decide +kernel) (by decide +kernel)
set_option maxRecDepth 20000 in
theorem gX5_serve_X5_queuedAt : GoodIn wsX5_serve (wsV RX5 65 RX5 yX5_queuedAt wsX5_queuedAt) := goodIn_app (goodIn_of _ (by decide +kernel)) ggX5_serve_X5_queuedAt
set_option maxRecDepth 20000 in
theorem ggX5_serve_X5_of : GoodIn wsX5_serve wsX5_of := goodIn_r _ [14, 6, 46, 47, 48, 49, 50, 51, 52, 53, 54, 55, 56, 57, 58, 59] (by decide +kernel) (by decide +kernel)
set_option maxRecDepth 20000 in
theorem gX5_serve_X5_of : GoodIn wsX5_serve (wsV RX5 40 RX5 yX5_of wsX5_of) := goodIn_app (goodIn_of _ (by decide +kernel)) ggX5_serve_X5_of
set_option maxRecDepth 20000 in
theorem ggX5_serve_X5_canHold : GoodIn wsX5_serve wsX5_canHold := goodIn_r _ [18, 19, 20, 21, 4, 22, 6, 23, 24, 25, 46, 47, 48, 49, 50, 51, 52, 53, 54, 55, 56, 57, 58, 59] (by decide +kernel) (by decide +kernel)
set_option maxRecDepth 20000 in
theorem gX5_serve_X5_canHold : GoodIn wsX5_serve (wsV RX5 71 RX5 yX5_canHold wsX5_canHold) := goodIn_app (goodIn_of _ (by decide +kernel)) ggX5_serve_X5_canHold
set_option maxRecDepth 20000 in
theorem ggX5_serve_X5_dequeue : GoodIn wsX5_serve wsX5_dequeue := goodIn_r _ [29, 6, 11, 12, 13, 4, 14, 30, 31, 32, 33, 7, 8, 9, 10, 1, 2, 3, 5, 34, 35, 36, 37, 46, 47, 48, 49, 50, 51, 52, 53, 54, 55, 56, 57, 58, 59] (by decide +kernel) (by decide +kernel)
set_option maxRecDepth 20000 in
theorem gX5_serve_X5_dequeue : GoodIn wsX5_serve (wsV RX5 74 RX5 yX5_dequeue wsX5_dequeue) := goodIn_app (goodIn_of _ (by decide +kernel)) ggX5_serve_X5_dequeue
set_option maxRecDepth 20000 in
theorem ggX5_serve_X5_grant : GoodIn wsX5_serve wsX5_grant := goodIn_r _ [41, 42, 43, 44, 4, 45, 6, 11, 12, 13, 14, 34, 35, 36, 37, 46, 47, 48, 49, 50, 51, 52, 53, 54, 55, 56, 57, 58, 59] (by decide +kernel) (by decide +kernel)
set_option maxRecDepth 20000 in
theorem gX5_serve_X5_grant : GoodIn wsX5_serve (wsV RX5 77 RX5 yX5_grant wsX5_grant) := goodIn_app (goodIn_of _ (by decide +kernel)) ggX5_serve_X5_grant
set_option maxRecDepth 20000 in
theorem ggX5_waits_X5_of : GoodIn wsX5_waits wsX5_of := goodIn_r _ [5, 6, 22, 23, 24, 25, 26, 27, 28, 29, 30, 31, 32, 33, 34, 35] (by decide +kernel) (by decide +kernel)
set_option maxRecDepth 20000 in
theorem gX5_waits_X5_of : GoodIn wsX5_waits (wsV RX5 40 RX5 yX5_of wsX5_of) := goodIn_app (goodIn_of _ (by decide +kernel)) ggX5_waits_X5_of
set_option maxRecDepth 20000 in
theorem ggX5_waits_X5_lock : GoodIn wsX5_waits wsX5_lock := goodIn_r _ [10, 6, 22, 23, 24, 25, 26, 27, 28, 29, 30, 31, 32, 33, 34, 35] (by decide +kernel) (by decide +kernel)
set_option maxRecDepth 20000 in
theorem gX5_waits_X5_lock : GoodIn wsX5_waits (wsV RX5 51 RX5 yX5_lock wsX5_lock) := goodIn_app (goodIn_of _ (by decide +kernel)) ggX5_waits_X5_lock
set_option maxRecDepth 20000 in
theorem ggX5_waits_X5_isCompatible : GoodIn wsX5_waits wsX5_isCompatible := goodIn_r _ [13] (by decide +kernel) (by decide +kernel)
set_option maxRecDepth 20000 in
theorem gX5_waits_X5_isCompatible : GoodIn wsX5_waits (va_wsS RX5 54 yX5_isCompatible wsX5_isCompatible) := goodIn_app (goodIn_of _ (by decide +kernel)) ggX5_waits_X5_isCompatible
set_option maxRecDepth 20000 in
theorem ggX5_waits_X5_indexOf : GoodIn wsX5_waits wsX5_indexOf := goodIn_r _ [17, 1, 2, 3, 4, 5, 6, 18, 19, 20, 21, 22, 23, 24, 25, 26, 27, 28, 29, 30, 31, 32, 33, 34, 35] (by decide +kernel) (by decide +kernel)
set_option maxRecDepth 20000 in
theorem gX5_waits_X5_indexOf : GoodIn wsX5_waits (wsV RX5 68 RX5 yX5_indexOf wsX5_indexOf) := goodIn_app (goodIn_of _ (by decide +kernel)) ggX5_waits_X5_indexOf
set_option maxRecDepth 20000 in
theorem ggX5_findDistances_X5_waits : GoodIn wsX5_findDistances wsX5_waits := goodIn_r _ [6, 7, 8, 9, 5, 10, 11, 12, 13, 14, 15, 16, 17, 18, 19, 20, 21, 22, 23, 24, 25, 26, 27, 28, 29, 30, 31, 32, 33, 34, 35, 36, 37, 38, 39, 40] (by decide +kernel) (by decide +kernel)
set_option maxRecDepth 20000 in
theorem gX5_findDistances_X5_waits : GoodIn wsX5_findDistances (wsV RX5 80 RX5 yX5_waits wsX5_waits) := goodIn_app (goodIn_of _ (by decide +kernel)) ggX5_findDistances_X5_waits
set_option maxRecDepth 20000 in
theorem ggX5_findRing_X5_findDistances : GoodIn wsX5_findRing wsX5_findDistances := goodIn_r _ [8, 1, 9, 10, 11, 7, 12, 13, 14, 15, 16, 17, 18, 19, 20, 21, 22, 23, 24, 25, 26, 27, 28, 29, 30, 31, 32, 33, 34, 35, 36, 37, 38, 39, 40, 41, 42, 43, 44, 45, 46] (by decide +kernel) (by decide +kernel)
set_option maxRecDepth 20000 in
theorem gX5_findRing_X5_findDistances : GoodIn wsX5_findRing (wsV RX5 83 RX5 yX5_findDistances wsX5_findDistances) := goodIn_app (goodIn_of _ (by decide +kernel)) ggX5_findRing_X5_findDistances
set_option maxRecDepth 20000 in
theorem ggX5_findRing_X5_waits : GoodIn wsX5_findRing wsX5_waits := goodIn_r _ [12, 13, 14, 15, 7, 16, 17, 18, 19, 20, 21, 22, 23, 24, 25, 26, 27, 28, 29, 30, 31, 32, 33, 34, 35, 36, 37, 38, 39, 40, 41, 42, 43, 44, 45, 46] (by decide +kernel) (by decide +kernel)
set_option maxRecDepth 20000 in
theorem gX5_findRing_X5_waits : GoodIn wsX5_findRing (wsV RX5 80 RX5 yX5_waits wsX5_waits) := goodIn_app (goodIn_of _ (by decide +kernel)) ggX5_findRing_X5_waits
set_option maxRecDepth 20000 in
theorem ggX5_victim_X5_of : GoodIn wsX5_victim wsX5_of := goodIn_r _ [7, 8, 9, 10, 11, 12, 13, 14, 15, 16, 17, 18, 19, 20, 21, 22] (by decide +kernel) (by decide +kernel)
set_option maxRecDepth 20000 in
theorem gX5_victim_X5_of : GoodIn wsX5_victim (wsV RX5 40 RX5 yX5_of wsX5_of) := goodIn_app (goodIn_of _ (by decide +kernel)) ggX5_victim_X5_of
set_option maxRecDepth 20000 in
theorem ggX5_breakRings_X5_of : GoodIn wsX5_breakRings wsX5_of := goodIn_r _ [7, 2, 74, 75, 76, 77, 78, 79, 80, 81, 82, 83, 84, 85, 86, 87] (by decide +kernel) (by decide +kernel)
set_option maxRecDepth 20000 in
theorem gX5_breakRings_X5_of : GoodIn wsX5_breakRings (wsV RX5 40 RX5 yX5_of wsX5_of) := goodIn_app (goodIn_of _ (by decide +kernel)) ggX5_breakRings_X5_of
set_option maxRecDepth 20000 in
theorem ggX5_breakRings_X5_findRing : GoodIn wsX5_breakRings wsX5_findRing := goodIn_r _ [11, 12, 13, 14, 15, 16, 17, 6, 18, 19, 20, 21, 22, 3, 4, 5, 7, 2, 23, 24, 25, 26, 27, 28, 29, 30, 31, 32, 33, 34, 35, 36, 37, 74, 75, 76, 77, 78, 79, 80, 81, 82, 83, 84, 85, 86, 87] (by decide +kernel) (by decide +kernel)
set_option maxRecDepth 20000 in
theorem gX5_breakRings_X5_findRing : GoodIn wsX5_breakRings (wsV RX5 89 RX5 yX5_findRing wsX5_findRing) := goodIn_app (goodIn_of _ (by decide +kernel)) ggX5_breakRings_X5_findRing
set_option maxRecDepth 20000 in
theorem ggX5_breakRings_X5_victim : GoodIn wsX5_breakRings wsX5_victim := goodIn_r _ [41, 14, 13, 3, 4, 5, 6, 7, 2, 74, 75, 76, 77, 78, 79, 80, 81, 82, 83, 84, 85, 86, 87] (by decide +kernel) (by decide +kernel)
set_option maxRecDepth 20000 in
theorem gX5_breakRings_X5_victim : GoodIn wsX5_breakRings (wsV RX5 93 RX5 yX5_victim wsX5_victim) := goodIn_app (goodIn_of _ (by decide +kernel)) ggX5_breakRings_X5_victim
set_option maxRecDepth 20000 in
theorem ggX5_breakRings_X5_dequeue : GoodIn wsX5_breakRings wsX5_dequeue := goodIn_r _ [45, 2, 3, 4, 5, 6, 7, 30, 31, 32, 33, 34, 35, 36, 37, 46, 47, 48, 49, 50, 51, 52, 53, 74, 75, 76, 77, 78, 79, 80, 81, 82, 83, 84, 85, 86, 87] (by decide +kernel) (by decide +kernel)
set_option maxRecDepth 20000 in
theorem gX5_breakRings_X5_dequeue : GoodIn wsX5_breakRings (wsV RX5 74 RX5 yX5_dequeue wsX5_dequeue) := goodIn_app (goodIn_of _ (by decide +kernel)) ggX5_breakRings_X5_dequeue
set_option maxRecDepth 20000 in
theorem ggX5_breakRings_X5_release : GoodIn wsX5_breakRings wsX5_release := goodIn_r _ [57, 58, 59, 60, 6, 61, 2, 74, 75, 76, 77, 78, 79, 80, 81, 82, 83, 84, 85, 86, 87] (by decide +kernel) (by decide +kernel)
set_option maxRecDepth 20000 in
theorem gX5_breakRings_X5_release : GoodIn wsX5_breakRings (wsV RX5 100 RX5 yX5_release wsX5_release) := goodIn_app (goodIn_of _ (by decide +kernel)) ggX5_breakRings_X5_release
set_option maxRecDepth 20000 in
theorem ggX5_breakRings_X5_put : GoodIn wsX5_breakRings wsX5_put := goodIn_r _ [53, 2, 74, 75, 76, 77, 78, 79, 80, 81, 82, 83, 84, 85, 86, 87] (by decide +kernel) (by decide +kernel)
set_option maxRecDepth 20000 in
theorem gX5_breakRings_X5_put : GoodIn wsX5_breakRings (wsV RX5 44 RX5 yX5_put wsX5_put) := goodIn_app (goodIn_of _ (by decide +kernel)) ggX5_breakRings_X5_put
set_option maxRecDepth 20000 in
theorem ggX5_breakRings_X5_serve : GoodIn wsX5_breakRings wsX5_serve := goodIn_r _ [65, 46, 47, 48, 6, 49, 2, 34, 35, 36, 37, 3, 4, 5, 7, 66, 67, 68, 69, 23, 24, 25, 26, 27, 28, 29, 42, 43, 44, 45, 30, 31, 32, 33, 50, 51, 52, 53, 70, 71, 72, 73, 58, 59, 60, 61, 74, 75, 76, 77, 78, 79, 80, 81, 82, 83, 84, 85, 86, 87] (by decide +kernel) (by decide +kernel)
set_option maxRecDepth 20000 in
theorem gX5_breakRings_X5_serve : GoodIn wsX5_breakRings (wsV RX5 103 RX5 yX5_serve wsX5_serve) := goodIn_app (goodIn_of _ (by decide +kernel)) ggX5_breakRings_X5_serve
set_option maxRecDepth 20000 in
theorem ggX5_whyNoBegin_X5_isTransaction : GoodIn wsX5_whyNoBegin wsX5_isTransaction := goodIn_r _ [4, 5, 6, 3, 7] (by decide +kernel) (by decide +kernel)
set_option maxRecDepth 20000 in
theorem gX5_whyNoBegin_X5_isTransaction : GoodIn wsX5_whyNoBegin (va_wsS RX5 106 yX5_isTransaction wsX5_isTransaction) := goodIn_app (goodIn_of _ (by decide +kernel)) ggX5_whyNoBegin_X5_isTransaction
set_option maxRecDepth 20000 in
theorem ggX5_whyNoBegin_X5_of : GoodIn wsX5_whyNoBegin wsX5_of := goodIn_r _ [11, 12, 13, 14, 15, 16, 17, 18, 19, 20, 21, 22, 23, 24, 25, 26] (by decide +kernel) (by decide +kernel)
set_option maxRecDepth 20000 in
theorem gX5_whyNoBegin_X5_of : GoodIn wsX5_whyNoBegin (wsV RX5 40 RX5 yX5_of wsX5_of) := goodIn_app (goodIn_of _ (by decide +kernel)) ggX5_whyNoBegin_X5_of
set_option maxRecDepth 20000 in
theorem ggX5_doBegin_X5_put : GoodIn wsX5_doBegin wsX5_put := goodIn_r _ [6, 1, 11, 12, 13, 14, 15, 16, 17, 18, 19, 20, 21, 22, 23, 24] (by decide +kernel) (by decide +kernel)
set_option maxRecDepth 20000 in
theorem gX5_doBegin_X5_put : GoodIn wsX5_doBegin (wsV RX5 44 RX5 yX5_put wsX5_put) := goodIn_app (goodIn_of _ (by decide +kernel)) ggX5_doBegin_X5_put
set_option maxRecDepth 20000 in
theorem ggX5_doBegin_X5_of : GoodIn wsX5_doBegin wsX5_of := goodIn_r _ [10, 1, 11, 12, 13, 14, 15, 16, 17, 18, 19, 20, 21, 22, 23, 24] (by decide +kernel) (by decide +kernel)
set_option maxRecDepth 20000 in
theorem gX5_doBegin_X5_of : GoodIn wsX5_doBegin (wsV RX5 40 RX5 yX5_of wsX5_of) := goodIn_app (goodIn_of _ (by decide +kernel)) ggX5_doBegin_X5_of
set_option maxRecDepth 20000 in
theorem ggX5_begin_X5_whyNoBegin : GoodIn wsX5_begin wsX5_whyNoBegin := goodIn_r _ [6, 7, 8, 5, 9, 10, 11, 12, 13, 14, 15, 16, 17, 32, 33, 34, 35, 36, 37, 38, 39, 40, 41, 42, 43, 44, 45] (by decide +kernel) (by decide +kernel)
set_option maxRecDepth 20000 in
theorem gX5_begin_X5_whyNoBegin : GoodIn wsX5_begin (wsV RX5 109 RX5 yX5_whyNoBegin wsX5_whyNoBegin) := goodIn_app (goodIn_of _ (by decide +kernel)) ggX5_begin_X5_whyNoBegin
set_option maxRecDepth 20000 in
theorem ggX5_begin_X5_save : GoodIn wsX5_begin wsX5_save := goodIn_r _ [21, 22, 23, 17, 32, 33, 34, 35, 36, 37, 38, 39, 40, 41, 42, 43, 44, 45] (by decide +kernel) (by decide +kernel)
set_option maxRecDepth 20000 in
theorem gX5_begin_X5_save : GoodIn wsX5_begin (wsV RX5 112 RX5 yX5_save wsX5_save) := goodIn_app (goodIn_of _ (by decide +kernel)) ggX5_begin_X5_save
set_option maxRecDepth 20000 in
theorem ggX5_begin_X5_doBegin : GoodIn wsX5_begin wsX5_doBegin := goodIn_r _ [27, 17, 28, 29, 30, 5, 31, 13, 14, 15, 16, 32, 33, 34, 35, 36, 37, 38, 39, 40, 41, 42, 43, 44, 45] (by decide +kernel) (by decide +kernel)
set_option maxRecDepth 20000 in
theorem gX5_begin_X5_doBegin : GoodIn wsX5_begin (wsV RX5 115 RX5 yX5_doBegin wsX5_doBegin) := goodIn_app (goodIn_of _ (by decide +kernel)) ggX5_begin_X5_doBegin
set_option maxRecDepth 20000 in
theorem ggX5_whyNoRequest_X5_isTransaction : GoodIn wsX5_whyNoRequest wsX5_isTransaction := goodIn_r _ [4, 5, 6, 3, 7] (by decide +kernel) (by decide +kernel)
set_option maxRecDepth 20000 in
theorem gX5_whyNoRequest_X5_isTransaction : GoodIn wsX5_whyNoRequest (va_wsS RX5 106 yX5_isTransaction wsX5_isTransaction) := goodIn_app (goodIn_of _ (by decide +kernel)) ggX5_whyNoRequest_X5_isTransaction
set_option maxRecDepth 20000 in
theorem ggX5_whyNoRequest_X5_isResource : GoodIn wsX5_whyNoRequest wsX5_isResource := goodIn_r _ [10, 5, 6, 3, 7] (by decide +kernel) (by decide +kernel)
set_option maxRecDepth 20000 in
theorem gX5_whyNoRequest_X5_isResource : GoodIn wsX5_whyNoRequest (va_wsS RX5 118 yX5_isResource wsX5_isResource) := goodIn_app (goodIn_of _ (by decide +kernel)) ggX5_whyNoRequest_X5_isResource
set_option maxRecDepth 20000 in
theorem ggX5_whyNoRequest_X5_isMode : GoodIn wsX5_whyNoRequest wsX5_isMode := goodIn_r _ [13, 5, 6, 3, 7] (by decide +kernel) (by decide +kernel)
set_option maxRecDepth 20000 in
theorem gX5_whyNoRequest_X5_isMode : GoodIn wsX5_whyNoRequest (va_wsS RX5 121 yX5_isMode wsX5_isMode) := goodIn_app (goodIn_of _ (by decide +kernel)) ggX5_whyNoRequest_X5_isMode
set_option maxRecDepth 20000 in
theorem ggX5_whyNoRequest_X5_isActive : GoodIn wsX5_whyNoRequest wsX5_isActive := goodIn_r _ [17, 18, 19, 20, 3, 21, 22, 23, 24, 25, 26, 27, 28, 29, 30, 31, 32, 33, 34, 35, 36] (by decide +kernel) (by decide +kernel)
set_option maxRecDepth 20000 in
theorem gX5_whyNoRequest_X5_isActive : GoodIn wsX5_whyNoRequest (wsV RX5 124 RX5 yX5_isActive wsX5_isActive) := goodIn_app (goodIn_of _ (by decide +kernel)) ggX5_whyNoRequest_X5_isActive
set_option maxRecDepth 20000 in
theorem ggX5_doRequest_X5_lock : GoodIn wsX5_doRequest wsX5_lock := goodIn_r _ [6, 7, 90, 91, 92, 93, 94, 95, 96, 97, 98, 99, 100, 101, 102, 103] (by decide +kernel) (by decide +kernel)
set_option maxRecDepth 20000 in
theorem gX5_doRequest_X5_lock : GoodIn wsX5_doRequest (wsV RX5 51 RX5 yX5_lock wsX5_lock) := goodIn_app (goodIn_of _ (by decide +kernel)) ggX5_doRequest_X5_lock
set_option maxRecDepth 20000 in
theorem ggX5_doRequest_X5_isOnlyHolder : GoodIn wsX5_doRequest wsX5_isOnlyHolder := goodIn_r _ [11, 2, 3, 4, 5, 6, 7, 90, 91, 92, 93, 94, 95, 96, 97, 98, 99, 100, 101, 102, 103] (by decide +kernel) (by decide +kernel)
set_option maxRecDepth 20000 in
theorem gX5_doRequest_X5_isOnlyHolder : GoodIn wsX5_doRequest (wsV RX5 127 RX5 yX5_isOnlyHolder wsX5_isOnlyHolder) := goodIn_app (goodIn_of _ (by decide +kernel)) ggX5_doRequest_X5_isOnlyHolder
set_option maxRecDepth 20000 in
theorem ggX5_doRequest_X5_queueOf : GoodIn wsX5_doRequest wsX5_queueOf := goodIn_r _ [15, 7, 90, 91, 92, 93, 94, 95, 96, 97, 98, 99, 100, 101, 102, 103] (by decide +kernel) (by decide +kernel)
set_option maxRecDepth 20000 in
theorem gX5_doRequest_X5_queueOf : GoodIn wsX5_doRequest (wsV RX5 61 RX5 yX5_queueOf wsX5_queueOf) := goodIn_app (goodIn_of _ (by decide +kernel)) ggX5_doRequest_X5_queueOf
set_option maxRecDepth 20000 in
theorem ggX5_doRequest_X5_canHold : GoodIn wsX5_doRequest wsX5_canHold := goodIn_r _ [19, 2, 3, 4, 5, 6, 7, 20, 21, 22, 90, 91, 92, 93, 94, 95, 96, 97, 98, 99, 100, 101, 102, 103] (by decide +kernel) (by decide +kernel)
set_option maxRecDepth 20000 in
theorem gX5_doRequest_X5_canHold : GoodIn wsX5_doRequest (wsV RX5 71 RX5 yX5_canHold wsX5_canHold) := goodIn_app (goodIn_of _ (by decide +kernel)) ggX5_doRequest_X5_canHold
set_option maxRecDepth 20000 in
theorem ggX5_doRequest_X5_grant : GoodIn wsX5_doRequest wsX5_grant := goodIn_r _ [26, 27, 28, 29, 5, 30, 7, 31, 32, 33, 34, 35, 36, 37, 38, 90, 91, 92, 93, 94, 95, 96, 97, 98, 99, 100, 101, 102, 103] (by decide +kernel) (by decide +kernel)
set_option maxRecDepth 20000 in
theorem gX5_doRequest_X5_grant : GoodIn wsX5_doRequest (wsV RX5 77 RX5 yX5_grant wsX5_grant) := goodIn_app (goodIn_of _ (by decide +kernel)) ggX5_doRequest_X5_grant
set_option maxRecDepth 20000 in
theorem ggX5_doRequest_X5_queuedAt : GoodIn wsX5_doRequest wsX5_queuedAt := goodIn_r _ [42, 7, 90, 91, 92, 93, 94, 95, 96, 97, 98, 99, 100, 101, 102, 103] (by decide +kernel) (by decide +kernel)
set_option maxRecDepth 20000 in
theorem gX5_doRequest_X5_queuedAt : GoodIn wsX5_doRequest (wsV RX5 65 RX5 yX5_queuedAt wsX5_queuedAt) := goodIn_app (goodIn_of _ (by decide +kernel)) ggX5_doRequest_X5_queuedAt
set_option maxRecDepth 20000 in
theorem ggX5_doRequest_X5_isUpgrade : GoodIn wsX5_doRequest wsX5_isUpgrade := goodIn_r _ [46, 2, 3, 4, 5, 6, 7, 90, 91, 92, 93, 94, 95, 96, 97, 98, 99, 100, 101, 102, 103] (by decide +kernel) (by decide +kernel)
set_option maxRecDepth 20000 in
theorem gX5_doRequest_X5_isUpgrade : GoodIn wsX5_doRequest (wsV RX5 130 RX5 yX5_isUpgrade wsX5_isUpgrade) := goodIn_app (goodIn_of _ (by decide +kernel)) ggX5_doRequest_X5_isUpgrade
set_option maxRecDepth 20000 in
theorem ggX5_doRequest_X5_enqueue : GoodIn wsX5_doRequest wsX5_enqueue := goodIn_r _ [50, 7, 12, 13, 14, 5, 15, 35, 36, 37, 38, 90, 91, 92, 93, 94, 95, 96, 97, 98, 99, 100, 101, 102, 103] (by decide +kernel) (by decide +kernel)
set_option maxRecDepth 20000 in
theorem gX5_doRequest_X5_enqueue : GoodIn wsX5_doRequest (wsV RX5 133 RX5 yX5_enqueue wsX5_enqueue) := goodIn_app (goodIn_of _ (by decide +kernel)) ggX5_doRequest_X5_enqueue
set_option maxRecDepth 20000 in
theorem ggX5_doRequest_X5_breakRings : GoodIn wsX5_doRequest wsX5_breakRings := goodIn_r _ [54, 1, 7, 31, 32, 33, 5, 34, 55, 56, 57, 58, 59, 60, 61, 62, 63, 64, 65, 66, 67, 68, 69, 2, 3, 4, 6, 20, 21, 22, 70, 71, 72, 73, 39, 40, 41, 42, 74, 75, 76, 77, 78, 79, 80, 81, 12, 13, 14, 15, 35, 36, 37, 38, 82, 83, 84, 85, 27, 28, 29, 30, 86, 87, 88, 89, 16, 17, 18, 19, 23, 24, 25, 26, 90, 91, 92, 93, 94, 95, 96, 97, 98, 99, 100, 101, 102, 103] (by decide +kernel) (by decide +kernel)
set_option maxRecDepth 20000 in
theorem gX5_doRequest_X5_breakRings : GoodIn wsX5_doRequest (wsV RX5 137 RX5 yX5_breakRings wsX5_breakRings) := goodIn_app (goodIn_of _ (by decide +kernel)) ggX5_doRequest_X5_breakRings
set_option maxRecDepth 20000 in
theorem ggX5_doRequest_X5_of : GoodIn wsX5_doRequest wsX5_of := goodIn_r _ [34, 7, 90, 91, 92, 93, 94, 95, 96, 97, 98, 99, 100, 101, 102, 103] (by decide +kernel) (by decide +kernel)
set_option maxRecDepth 20000 in
theorem gX5_doRequest_X5_of : GoodIn wsX5_doRequest (wsV RX5 40 RX5 yX5_of wsX5_of) := goodIn_app (goodIn_of _ (by decide +kernel)) ggX5_doRequest_X5_of
set_option maxRecDepth 20000 in
theorem ggX5_request_X5_whyNoRequest : GoodIn wsX5_request wsX5_whyNoRequest := goodIn_r _ [6, 7, 8, 5, 9, 10, 11, 12, 13, 14, 15, 16, 17, 18, 19, 20, 21, 22, 23, 24, 25, 26, 27, 121, 122, 123, 124, 125, 126, 127, 128, 129, 130, 131, 132, 133, 134] (by decide +kernel) (by decide +kernel)
set_option maxRecDepth 20000 in
theorem gX5_request_X5_whyNoRequest : GoodIn wsX5_request (wsV RX5 140 RX5 yX5_whyNoRequest wsX5_whyNoRequest) := goodIn_app (goodIn_of _ (by decide +kernel)) ggX5_request_X5_whyNoRequest
set_option maxRecDepth 20000 in
theorem ggX5_request_X5_save : GoodIn wsX5_request wsX5_save := goodIn_r _ [31, 32, 33, 27, 121, 122, 123, 124, 125, 126, 127, 128, 129, 130, 131, 132, 133, 134] (by decide +kernel) (by decide +kernel)
set_option maxRecDepth 20000 in
theorem gX5_request_X5_save : GoodIn wsX5_request (wsV RX5 112 RX5 yX5_save wsX5_save) := goodIn_app (goodIn_of _ (by decide +kernel)) ggX5_request_X5_save
set_option maxRecDepth 20000 in
theorem ggX5_request_X5_doRequest : GoodIn wsX5_request wsX5_doRequest := goodIn_r _ [37, 38, 39, 40, 41, 5, 42, 27, 43, 44, 45, 46, 47, 48, 49, 50, 51, 52, 53, 54, 55, 56, 57, 58, 59, 60, 61, 62, 63, 64, 65, 23, 24, 25, 26, 66, 67, 68, 69, 70, 71, 72, 73, 74, 75, 76, 77, 78, 79, 80, 81, 82, 83, 84, 85, 86, 87, 88, 89, 90, 91, 92, 93, 94, 95, 96, 97, 98, 99, 100, 101, 102, 103, 104, 105, 106, 107, 108, 109, 110, 111, 112, 113, 114, 115, 116, 117, 118, 119, 120, 121, 122, 123, 124, 125, 126, 127, 128, 129, 130, 131, 132, 133, 134] (by decide +kernel) (by decide +kernel)
set_option maxRecDepth 20000 in
theorem gX5_request_X5_doRequest : GoodIn wsX5_request (wsV RX5 144 RX5 yX5_doRequest wsX5_doRequest) := goodIn_app (goodIn_of _ (by decide +kernel)) ggX5_request_X5_doRequest
set_option maxRecDepth 20000 in
theorem ggX5_whyNoWork_X5_isTransaction : GoodIn wsX5_whyNoWork wsX5_isTransaction := goodIn_r _ [4, 5, 6, 3, 7] (by decide +kernel) (by decide +kernel)
set_option maxRecDepth 20000 in
theorem gX5_whyNoWork_X5_isTransaction : GoodIn wsX5_whyNoWork (va_wsS RX5 106 yX5_isTransaction wsX5_isTransaction) := goodIn_app (goodIn_of _ (by decide +kernel)) ggX5_whyNoWork_X5_isTransaction
set_option maxRecDepth 20000 in
theorem ggX5_whyNoWork_X5_in : GoodIn wsX5_whyNoWork wsX5_in := goodIn_r _ [7] (by decide +kernel) (by decide +kernel)
set_option maxRecDepth 20000 in
theorem gX5_whyNoWork_X5_in : GoodIn wsX5_whyNoWork (va_wsS RX5 36 yX5_in wsX5_in) := goodIn_app (goodIn_of _ (by decide +kernel)) ggX5_whyNoWork_X5_in
set_option maxRecDepth 20000 in
theorem ggX5_whyNoWork_X5_isActive : GoodIn wsX5_whyNoWork wsX5_isActive := goodIn_r _ [11, 12, 13, 14, 3, 15, 16, 17, 18, 19, 20, 21, 22, 23, 24, 25, 26, 27, 28, 29, 30] (by decide +kernel) (by decide +kernel)
set_option maxRecDepth 20000 in
theorem gX5_whyNoWork_X5_isActive : GoodIn wsX5_whyNoWork (wsV RX5 124 RX5 yX5_isActive wsX5_isActive) := goodIn_app (goodIn_of _ (by decide +kernel)) ggX5_whyNoWork_X5_isActive
set_option maxRecDepth 20000 in
theorem ggX5_doWork_X5_of : GoodIn wsX5_doWork wsX5_of := goodIn_r _ [5, 6, 11, 12, 13, 14, 15, 16, 17, 18, 19, 20, 21, 22, 23, 24] (by decide +kernel) (by decide +kernel)
set_option maxRecDepth 20000 in
theorem gX5_doWork_X5_of : GoodIn wsX5_doWork (wsV RX5 40 RX5 yX5_of wsX5_of) := goodIn_app (goodIn_of _ (by decide +kernel)) ggX5_doWork_X5_of
set_option maxRecDepth 20000 in
theorem ggX5_doWork_X5_put : GoodIn wsX5_doWork wsX5_put := goodIn_r _ [10, 6, 11, 12, 13, 14, 15, 16, 17, 18, 19, 20, 21, 22, 23, 24] (by decide +kernel) (by decide +kernel)
set_option maxRecDepth 20000 in
theorem gX5_doWork_X5_put : GoodIn wsX5_doWork (wsV RX5 44 RX5 yX5_put wsX5_put) := goodIn_app (goodIn_of _ (by decide +kernel)) ggX5_doWork_X5_put
set_option maxRecDepth 20000 in
theorem ggX5_work_X5_whyNoWork : GoodIn wsX5_work wsX5_whyNoWork := goodIn_r _ [6, 7, 8, 5, 9, 10, 11, 12, 13, 14, 15, 16, 17, 18, 19, 20, 21, 36, 37, 38, 39, 40, 41, 42, 43, 44, 45, 46, 47, 48, 49] (by decide +kernel) (by decide +kernel)
set_option maxRecDepth 20000 in
theorem gX5_work_X5_whyNoWork : GoodIn wsX5_work (wsV RX5 147 RX5 yX5_whyNoWork wsX5_whyNoWork) := goodIn_app (goodIn_of _ (by decide +kernel)) ggX5_work_X5_whyNoWork
set_option maxRecDepth 20000 in
theorem ggX5_work_X5_save : GoodIn wsX5_work wsX5_save := goodIn_r _ [25, 26, 27, 21, 36, 37, 38, 39, 40, 41, 42, 43, 44, 45, 46, 47, 48, 49] (by decide +kernel) (by decide +kernel)
set_option maxRecDepth 20000 in
theorem gX5_work_X5_save : GoodIn wsX5_work (wsV RX5 112 RX5 yX5_save wsX5_save) := goodIn_app (goodIn_of _ (by decide +kernel)) ggX5_work_X5_save
set_option maxRecDepth 20000 in
theorem ggX5_work_X5_doWork : GoodIn wsX5_work wsX5_doWork := goodIn_r _ [31, 17, 18, 19, 5, 20, 21, 32, 33, 34, 35, 36, 37, 38, 39, 40, 41, 42, 43, 44, 45, 46, 47, 48, 49] (by decide +kernel) (by decide +kernel)
set_option maxRecDepth 20000 in
theorem gX5_work_X5_doWork : GoodIn wsX5_work (wsV RX5 150 RX5 yX5_doWork wsX5_doWork) := goodIn_app (goodIn_of _ (by decide +kernel)) ggX5_work_X5_doWork
set_option maxRecDepth 20000 in
theorem ggX5_whyNoWithdraw_X5_isTransaction : GoodIn wsX5_whyNoWithdraw wsX5_isTransaction := goodIn_r _ [4, 5, 6, 3, 7] (by decide +kernel) (by decide +kernel)
set_option maxRecDepth 20000 in
theorem gX5_whyNoWithdraw_X5_isTransaction : GoodIn wsX5_whyNoWithdraw (va_wsS RX5 106 yX5_isTransaction wsX5_isTransaction) := goodIn_app (goodIn_of _ (by decide +kernel)) ggX5_whyNoWithdraw_X5_isTransaction
set_option maxRecDepth 20000 in
theorem ggX5_whyNoWithdraw_X5_of : GoodIn wsX5_whyNoWithdraw wsX5_of := goodIn_r _ [11, 12, 13, 14, 15, 16, 17, 18, 19, 20, 21, 22, 23, 24, 25, 26] (by decide +kernel) (by decide +kernel)
set_option maxRecDepth 20000 in
theorem gX5_whyNoWithdraw_X5_of : GoodIn wsX5_whyNoWithdraw (wsV RX5 40 RX5 yX5_of wsX5_of) := goodIn_app (goodIn_of _ (by decide +kernel)) ggX5_whyNoWithdraw_X5_of
set_option maxRecDepth 20000 in
theorem ggX5_doWithdraw_X5_dequeue : GoodIn wsX5_doWithdraw wsX5_dequeue := goodIn_r _ [5, 6, 7, 8, 9, 4, 10, 11, 12, 13, 14, 15, 16, 17, 18, 19, 20, 21, 22, 23, 24, 25, 26, 50, 51, 52, 53, 54, 55, 56, 57, 58, 59, 60, 61, 62, 63] (by decide +kernel) (by decide +kernel)
set_option maxRecDepth 20000 in
theorem gX5_doWithdraw_X5_dequeue : GoodIn wsX5_doWithdraw (wsV RX5 74 RX5 yX5_dequeue wsX5_dequeue) := goodIn_app (goodIn_of _ (by decide +kernel)) ggX5_doWithdraw_X5_dequeue
set_option maxRecDepth 20000 in
theorem ggX5_doWithdraw_X5_serve : GoodIn wsX5_doWithdraw wsX5_serve := goodIn_r _ [30, 19, 20, 21, 4, 22, 6, 15, 16, 17, 18, 7, 8, 9, 10, 31, 32, 33, 34, 35, 36, 37, 38, 39, 40, 41, 1, 2, 3, 5, 11, 12, 13, 14, 23, 24, 25, 26, 42, 43, 44, 45, 46, 47, 48, 49, 50, 51, 52, 53, 54, 55, 56, 57, 58, 59, 60, 61, 62, 63] (by decide +kernel) (by decide +kernel)
set_option maxRecDepth 20000 in
theorem gX5_doWithdraw_X5_serve : GoodIn wsX5_doWithdraw (wsV RX5 103 RX5 yX5_serve wsX5_serve) := goodIn_app (goodIn_of _ (by decide +kernel)) ggX5_doWithdraw_X5_serve
set_option maxRecDepth 20000 in
theorem ggX5_withdraw_X5_whyNoWithdraw : GoodIn wsX5_withdraw wsX5_whyNoWithdraw := goodIn_r _ [6, 7, 8, 5, 9, 10, 11, 12, 13, 14, 15, 16, 17, 71, 72, 73, 74, 75, 76, 77, 78, 79, 80, 81, 82, 83, 84] (by decide +kernel) (by decide +kernel)
set_option maxRecDepth 20000 in
theorem gX5_withdraw_X5_whyNoWithdraw : GoodIn wsX5_withdraw (wsV RX5 153 RX5 yX5_whyNoWithdraw wsX5_whyNoWithdraw) := goodIn_app (goodIn_of _ (by decide +kernel)) ggX5_withdraw_X5_whyNoWithdraw
set_option maxRecDepth 20000 in
theorem ggX5_withdraw_X5_save : GoodIn wsX5_withdraw wsX5_save := goodIn_r _ [21, 22, 23, 17, 71, 72, 73, 74, 75, 76, 77, 78, 79, 80, 81, 82, 83, 84] (by decide +kernel) (by decide +kernel)
set_option maxRecDepth 20000 in
theorem gX5_withdraw_X5_save : GoodIn wsX5_withdraw (wsV RX5 112 RX5 yX5_save wsX5_save) := goodIn_app (goodIn_of _ (by decide +kernel)) ggX5_withdraw_X5_save
set_option maxRecDepth 20000 in
theorem ggX5_withdraw_X5_doWithdraw : GoodIn wsX5_withdraw wsX5_doWithdraw := goodIn_r _ [27, 28, 29, 30, 5, 31, 17, 13, 14, 15, 16, 32, 33, 34, 35, 36, 37, 38, 39, 40, 41, 42, 43, 44, 45, 46, 47, 48, 49, 50, 51, 52, 53, 54, 55, 56, 57, 58, 59, 60, 61, 62, 63, 64, 65, 66, 67, 68, 69, 70, 71, 72, 73, 74, 75, 76, 77, 78, 79, 80, 81, 82, 83, 84] (by decide +kernel) (by decide +kernel)
set_option maxRecDepth 20000 in
theorem gX5_withdraw_X5_doWithdraw : GoodIn wsX5_withdraw (wsV RX5 156 RX5 yX5_doWithdraw wsX5_doWithdraw) := goodIn_app (goodIn_of _ (by decide +kernel)) ggX5_withdraw_X5_doWithdraw
set_option maxRecDepth 20000 in
theorem ggX5_whyNoCommit_X5_isTransaction : GoodIn wsX5_whyNoCommit wsX5_isTransaction := goodIn_r _ [4, 5, 6, 3, 7] (by decide +kernel) (by decide +kernel)
set_option maxRecDepth 20000 in
theorem gX5_whyNoCommit_X5_isTransaction : GoodIn wsX5_whyNoCommit (va_wsS RX5 106 yX5_isTransaction wsX5_isTransaction) := goodIn_app (goodIn_of _ (by decide +kernel)) ggX5_whyNoCommit_X5_isTransaction
set_option maxRecDepth 20000 in
theorem ggX5_whyNoCommit_X5_isActive : GoodIn wsX5_whyNoCommit wsX5_isActive := goodIn_r _ [11, 12, 13, 14, 3, 15, 16, 17, 18, 19, 20, 21, 22, 23, 24, 25, 26, 27, 28, 29, 30] (by decide +kernel) (by decide +kernel)
set_option maxRecDepth 20000 in
theorem gX5_whyNoCommit_X5_isActive : GoodIn wsX5_whyNoCommit (wsV RX5 124 RX5 yX5_isActive wsX5_isActive) := goodIn_app (goodIn_of _ (by decide +kernel)) ggX5_whyNoCommit_X5_isActive
set_option maxRecDepth 20000 in
theorem ggX5_doEnd_X5_of : GoodIn wsX5_doEnd wsX5_of := goodIn_r _ [5, 6, 58, 59, 60, 61, 62, 63, 64, 65, 66, 67, 68, 69, 70, 71] (by decide +kernel) (by decide +kernel)
set_option maxRecDepth 20000 in
theorem gX5_doEnd_X5_of : GoodIn wsX5_doEnd (wsV RX5 40 RX5 yX5_of wsX5_of) := goodIn_app (goodIn_of _ (by decide +kernel)) ggX5_doEnd_X5_of
set_option maxRecDepth 20000 in
theorem ggX5_doEnd_X5_dequeue : GoodIn wsX5_doEnd wsX5_dequeue := goodIn_r _ [10, 6, 1, 2, 3, 4, 5, 11, 12, 13, 14, 15, 16, 17, 18, 19, 20, 21, 22, 23, 24, 25, 26, 58, 59, 60, 61, 62, 63, 64, 65, 66, 67, 68, 69, 70, 71] (by decide +kernel) (by decide +kernel)
set_option maxRecDepth 20000 in
theorem gX5_doEnd_X5_dequeue : GoodIn wsX5_doEnd (wsV RX5 74 RX5 yX5_dequeue wsX5_dequeue) := goodIn_app (goodIn_of _ (by decide +kernel)) ggX5_doEnd_X5_dequeue
set_option maxRecDepth 20000 in
theorem ggX5_doEnd_X5_release : GoodIn wsX5_doEnd wsX5_release := goodIn_r _ [30, 31, 32, 33, 4, 34, 6, 58, 59, 60, 61, 62, 63, 64, 65, 66, 67, 68, 69, 70, 71] (by decide +kernel) (by decide +kernel)
set_option maxRecDepth 20000 in
theorem gX5_doEnd_X5_release : GoodIn wsX5_doEnd (wsV RX5 100 RX5 yX5_release wsX5_release) := goodIn_app (goodIn_of _ (by decide +kernel)) ggX5_doEnd_X5_release
set_option maxRecDepth 20000 in
theorem ggX5_doEnd_X5_end : GoodIn wsX5_doEnd wsX5_end := goodIn_r _ [38, 23, 24, 25, 4, 26, 6, 58, 59, 60, 61, 62, 63, 64, 65, 66, 67, 68, 69, 70, 71] (by decide +kernel) (by decide +kernel)
set_option maxRecDepth 20000 in
theorem gX5_doEnd_X5_end : GoodIn wsX5_doEnd (wsV RX5 28 RX5 yX5_end wsX5_end) := goodIn_app (goodIn_of _ (by decide +kernel)) ggX5_doEnd_X5_end
set_option maxRecDepth 20000 in
theorem ggX5_doEnd_X5_serve : GoodIn wsX5_doEnd wsX5_serve := goodIn_r _ [42, 19, 20, 21, 4, 22, 6, 15, 16, 17, 18, 1, 2, 3, 5, 43, 44, 45, 46, 47, 48, 49, 50, 51, 52, 53, 7, 8, 9, 10, 11, 12, 13, 14, 23, 24, 25, 26, 54, 55, 56, 57, 31, 32, 33, 34, 58, 59, 60, 61, 62, 63, 64, 65, 66, 67, 68, 69, 70, 71] (by decide +kernel) (by decide +kernel)
set_option maxRecDepth 20000 in
theorem gX5_doEnd_X5_serve : GoodIn wsX5_doEnd (wsV RX5 103 RX5 yX5_serve wsX5_serve) := goodIn_app (goodIn_of _ (by decide +kernel)) ggX5_doEnd_X5_serve
set_option maxRecDepth 20000 in
theorem ggX5_commit_X5_whyNoCommit : GoodIn wsX5_commit wsX5_whyNoCommit := goodIn_r _ [6, 7, 8, 5, 9, 10, 11, 12, 13, 14, 15, 16, 17, 18, 19, 20, 21, 83, 84, 85, 86, 87, 88, 89, 90, 91, 92, 93, 94, 95, 96] (by decide +kernel) (by decide +kernel)
set_option maxRecDepth 20000 in
theorem gX5_commit_X5_whyNoCommit : GoodIn wsX5_commit (wsV RX5 159 RX5 yX5_whyNoCommit wsX5_whyNoCommit) := goodIn_app (goodIn_of _ (by decide +kernel)) ggX5_commit_X5_whyNoCommit
set_option maxRecDepth 20000 in
theorem ggX5_commit_X5_save : GoodIn wsX5_commit wsX5_save := goodIn_r _ [25, 26, 27, 21, 83, 84, 85, 86, 87, 88, 89, 90, 91, 92, 93, 94, 95, 96] (by decide +kernel) (by decide +kernel)
set_option maxRecDepth 20000 in
theorem gX5_commit_X5_save : GoodIn wsX5_commit (wsV RX5 112 RX5 yX5_save wsX5_save) := goodIn_app (goodIn_of _ (by decide +kernel)) ggX5_commit_X5_save
set_option maxRecDepth 20000 in
theorem ggX5_commit_X5_doEnd : GoodIn wsX5_commit wsX5_doEnd := goodIn_r _ [31, 17, 18, 19, 5, 20, 21, 32, 33, 34, 35, 36, 37, 38, 39, 40, 41, 42, 43, 44, 45, 46, 47, 48, 49, 50, 51, 52, 53, 54, 55, 56, 57, 58, 59, 60, 61, 62, 63, 64, 65, 66, 67, 68, 69, 70, 71, 72, 73, 74, 75, 76, 77, 78, 79, 80, 81, 82, 83, 84, 85, 86, 87, 88, 89, 90, 91, 92, 93, 94, 95, 96] (by decide +kernel) (by decide +kernel)
set_option maxRecDepth 20000 in
theorem gX5_commit_X5_doEnd : GoodIn wsX5_commit (wsV RX5 162 RX5 yX5_doEnd wsX5_doEnd) := goodIn_app (goodIn_of _ (by decide +kernel)) ggX5_commit_X5_doEnd
set_option maxRecDepth 20000 in
theorem ggX5_whyNoRollBack_X5_isTransaction : GoodIn wsX5_whyNoRollBack wsX5_isTransaction := goodIn_r _ [4, 5, 6, 3, 7] (by decide +kernel) (by decide +kernel)
set_option maxRecDepth 20000 in
theorem gX5_whyNoRollBack_X5_isTransaction : GoodIn wsX5_whyNoRollBack (va_wsS RX5 106 yX5_isTransaction wsX5_isTransaction) := goodIn_app (goodIn_of _ (by decide +kernel)) ggX5_whyNoRollBack_X5_isTransaction
set_option maxRecDepth 20000 in
theorem ggX5_whyNoRollBack_X5_of : GoodIn wsX5_whyNoRollBack wsX5_of := goodIn_r _ [11, 12, 13, 14, 15, 16, 17, 18, 19, 20, 21, 22, 23, 24, 25, 26] (by decide +kernel) (by decide +kernel)
set_option maxRecDepth 20000 in
theorem gX5_whyNoRollBack_X5_of : GoodIn wsX5_whyNoRollBack (wsV RX5 40 RX5 yX5_of wsX5_of) := goodIn_app (goodIn_of _ (by decide +kernel)) ggX5_whyNoRollBack_X5_of
set_option maxRecDepth 20000 in
theorem ggX5_rollBack_X5_whyNoRollBack : GoodIn wsX5_rollBack wsX5_whyNoRollBack := goodIn_r _ [6, 7, 8, 5, 9, 10, 11, 12, 13, 14, 15, 16, 17, 79, 80, 81, 82, 83, 84, 85, 86, 87, 88, 89, 90, 91, 92] (by decide +kernel) (by decide +kernel)
set_option maxRecDepth 20000 in
theorem gX5_rollBack_X5_whyNoRollBack : GoodIn wsX5_rollBack (wsV RX5 165 RX5 yX5_whyNoRollBack wsX5_whyNoRollBack) := goodIn_app (goodIn_of _ (by decide +kernel)) ggX5_rollBack_X5_whyNoRollBack
set_option maxRecDepth 20000 in
theorem ggX5_rollBack_X5_save : GoodIn wsX5_rollBack wsX5_save := goodIn_r _ [21, 22, 23, 17, 79, 80, 81, 82, 83, 84, 85, 86, 87, 88, 89, 90, 91, 92] (by decide +kernel) (by decide +kernel)
set_option maxRecDepth 20000 in
theorem gX5_rollBack_X5_save : GoodIn wsX5_rollBack (wsV RX5 112 RX5 yX5_save wsX5_save) := goodIn_app (goodIn_of _ (by decide +kernel)) ggX5_rollBack_X5_save
set_option maxRecDepth 20000 in
theorem ggX5_rollBack_X5_doEnd : GoodIn wsX5_rollBack wsX5_doEnd := goodIn_r _ [27, 13, 14, 15, 5, 16, 17, 28, 29, 30, 31, 32, 33, 34, 35, 36, 37, 38, 39, 40, 41, 42, 43, 44, 45, 46, 47, 48, 49, 50, 51, 52, 53, 54, 55, 56, 57, 58, 59, 60, 61, 62, 63, 64, 65, 66, 67, 68, 69, 70, 71, 72, 73, 74, 75, 76, 77, 78, 79, 80, 81, 82, 83, 84, 85, 86, 87, 88, 89, 90, 91, 92] (by decide +kernel) (by decide +kernel)
set_option maxRecDepth 20000 in
theorem gX5_rollBack_X5_doEnd : GoodIn wsX5_rollBack (wsV RX5 162 RX5 yX5_doEnd wsX5_doEnd) := goodIn_app (goodIn_of _ (by decide +kernel)) ggX5_rollBack_X5_doEnd
set_option maxRecDepth 20000 in
theorem ggX5_appendText_X5_in : GoodIn wsX5_appendText wsX5_in := goodIn_r _ [7] (by decide +kernel) (by decide +kernel)
set_option maxRecDepth 20000 in
theorem gX5_appendText_X5_in : GoodIn wsX5_appendText (va_wsS RX5 36 yX5_in wsX5_in) := goodIn_app (goodIn_of _ (by decide +kernel)) ggX5_appendText_X5_in
set_option maxRecDepth 20000 in
theorem ggX5_isAt_X5_in : GoodIn wsX5_isAt wsX5_in := goodIn_r _ [6] (by decide +kernel) (by decide +kernel)
set_option maxRecDepth 20000 in
theorem gX5_isAt_X5_in : GoodIn wsX5_isAt (va_wsS RX5 36 yX5_in wsX5_in) := goodIn_app (goodIn_of _ (by decide +kernel)) ggX5_isAt_X5_in
set_option maxRecDepth 20000 in
theorem ggX5_readAmount_X5_isAt : GoodIn wsX5_readAmount wsX5_isAt := goodIn_r _ [7, 8, 2, 9, 10, 6, 11, 12, 13, 14, 15, 16, 17, 18, 19, 20, 21, 22, 23, 24, 25] (by decide +kernel) (by decide +kernel)
set_option maxRecDepth 20000 in
theorem gX5_readAmount_X5_isAt : GoodIn wsX5_readAmount (wsV RX5 174 RX5 yX5_isAt wsX5_isAt) := goodIn_app (goodIn_of _ (by decide +kernel)) ggX5_readAmount_X5_isAt
set_option maxRecDepth 20000 in
theorem ggX5_readCommand_X5_isAt : GoodIn wsX5_readCommand wsX5_isAt := goodIn_r _ [10, 1, 2, 11, 12, 9, 13, 18, 19, 20, 21, 22, 23, 24, 25, 26, 27, 28, 29, 30, 31] (by decide +kernel) (by decide +kernel)
set_option maxRecDepth 20000 in
theorem gX5_readCommand_X5_isAt : GoodIn wsX5_readCommand (wsV RX5 174 RX5 yX5_isAt wsX5_isAt) := goodIn_app (goodIn_of _ (by decide +kernel)) ggX5_readCommand_X5_isAt
set_option maxRecDepth 20000 in
theorem ggX5_readCommand_X5_readAmount : GoodIn wsX5_readCommand wsX5_readAmount := goodIn_r _ [17, 5, 2, 6, 7, 8, 9, 10, 1, 11, 12, 13, 18, 19, 20, 21, 22, 23, 24, 25, 26, 27, 28, 29, 30, 31] (by decide +kernel) (by decide +kernel)
set_option maxRecDepth 20000 in
theorem gX5_readCommand_X5_readAmount : GoodIn wsX5_readCommand (wsV RX5 183 RX5 yX5_readAmount wsX5_readAmount) := goodIn_app (goodIn_of _ (by decide +kernel)) ggX5_readCommand_X5_readAmount
set_option maxRecDepth 20000 in
theorem ggX5_findError_X5_readCommand : GoodIn wsX5_findError wsX5_readCommand := goodIn_r _ [7, 1, 2, 8, 9, 10, 11, 12, 13, 6, 14, 15, 16, 17, 18, 19, 20, 21, 22, 23, 24, 25, 26, 27, 28, 29, 30, 31, 32, 33, 34, 35] (by decide +kernel) (by decide +kernel)
set_option maxRecDepth 20000 in
theorem gX5_findError_X5_readCommand : GoodIn wsX5_findError (wsV RX5 186 RX5 yX5_readCommand wsX5_readCommand) := goodIn_app (goodIn_of _ (by decide +kernel)) ggX5_findError_X5_readCommand
set_option maxRecDepth 20000 in
theorem ggX5_errorPosition_X5_findError : GoodIn wsX5_errorPosition wsX5_findError := goodIn_r _ [6, 7, 8, 9, 10, 11, 5, 12, 13, 14, 15, 16, 17, 18, 19, 20, 21, 22, 23, 24, 25, 26, 27, 28, 29, 30, 31, 32, 33, 34, 35, 36, 37, 38, 39, 40] (by decide +kernel) (by decide +kernel)
set_option maxRecDepth 20000 in
theorem gX5_errorPosition_X5_findError : GoodIn wsX5_errorPosition (wsV RX5 189 RX5 yX5_findError wsX5_findError) := goodIn_app (goodIn_of _ (by decide +kernel)) ggX5_errorPosition_X5_findError
set_option maxRecDepth 20000 in
theorem ggX5_whyNoCommand_X5_whyNoBegin : GoodIn wsX5_whyNoCommand wsX5_whyNoBegin := goodIn_r _ [8, 9, 10, 7, 11, 12, 13, 14, 15, 16, 17, 18, 19, 50, 51, 52, 53, 54, 55, 56, 57, 58, 59, 60, 61, 62, 63] (by decide +kernel) (by decide +kernel)
set_option maxRecDepth 20000 in
theorem gX5_whyNoCommand_X5_whyNoBegin : GoodIn wsX5_whyNoCommand (wsV RX5 109 RX5 yX5_whyNoBegin wsX5_whyNoBegin) := goodIn_app (goodIn_of _ (by decide +kernel)) ggX5_whyNoCommand_X5_whyNoBegin
set_option maxRecDepth 20000 in
theorem ggX5_whyNoCommand_X5_whyNoRequest : GoodIn wsX5_whyNoCommand wsX5_whyNoRequest := goodIn_r _ [23, 9, 10, 7, 11, 12, 13, 14, 24, 25, 26, 27, 28, 29, 30, 31, 32, 33, 15, 16, 17, 18, 19, 50, 51, 52, 53, 54, 55, 56, 57, 58, 59, 60, 61, 62, 63] (by decide +kernel) (by decide +kernel)
set_option maxRecDepth 20000 in
theorem gX5_whyNoCommand_X5_whyNoRequest : GoodIn wsX5_whyNoCommand (wsV RX5 140 RX5 yX5_whyNoRequest wsX5_whyNoRequest) := goodIn_app (goodIn_of _ (by decide +kernel)) ggX5_whyNoCommand_X5_whyNoRequest
set_option maxRecDepth 20000 in
theorem ggX5_whyNoCommand_X5_whyNoWork : GoodIn wsX5_whyNoCommand wsX5_whyNoWork := goodIn_r _ [37, 9, 10, 7, 11, 12, 13, 14, 30, 31, 32, 33, 15, 16, 17, 18, 19, 50, 51, 52, 53, 54, 55, 56, 57, 58, 59, 60, 61, 62, 63] (by decide +kernel) (by decide +kernel)
set_option maxRecDepth 20000 in
theorem gX5_whyNoCommand_X5_whyNoWork : GoodIn wsX5_whyNoCommand (wsV RX5 147 RX5 yX5_whyNoWork wsX5_whyNoWork) := goodIn_app (goodIn_of _ (by decide +kernel)) ggX5_whyNoCommand_X5_whyNoWork
set_option maxRecDepth 20000 in
theorem ggX5_whyNoCommand_X5_whyNoCommit : GoodIn wsX5_whyNoCommand wsX5_whyNoCommit := goodIn_r _ [41, 9, 10, 7, 11, 12, 13, 14, 30, 31, 32, 33, 15, 16, 17, 18, 19, 50, 51, 52, 53, 54, 55, 56, 57, 58, 59, 60, 61, 62, 63] (by decide +kernel) (by decide +kernel)
set_option maxRecDepth 20000 in
theorem gX5_whyNoCommand_X5_whyNoCommit : GoodIn wsX5_whyNoCommand (wsV RX5 159 RX5 yX5_whyNoCommit wsX5_whyNoCommit) := goodIn_app (goodIn_of _ (by decide +kernel)) ggX5_whyNoCommand_X5_whyNoCommit
set_option maxRecDepth 20000 in
theorem ggX5_whyNoCommand_X5_whyNoRollBack : GoodIn wsX5_whyNoCommand wsX5_whyNoRollBack := goodIn_r _ [45, 9, 10, 7, 11, 12, 13, 14, 15, 16, 17, 18, 19, 50, 51, 52, 53, 54, 55, 56, 57, 58, 59, 60, 61, 62, 63] (by decide +kernel) (by decide +kernel)
set_option maxRecDepth 20000 in
theorem gX5_whyNoCommand_X5_whyNoRollBack : GoodIn wsX5_whyNoCommand (wsV RX5 165 RX5 yX5_whyNoRollBack wsX5_whyNoRollBack) := goodIn_app (goodIn_of _ (by decide +kernel)) ggX5_whyNoCommand_X5_whyNoRollBack
set_option maxRecDepth 20000 in
theorem ggX5_whyNoCommand_X5_whyNoWithdraw : GoodIn wsX5_whyNoCommand wsX5_whyNoWithdraw := goodIn_r _ [49, 9, 10, 7, 11, 12, 13, 14, 15, 16, 17, 18, 19, 50, 51, 52, 53, 54, 55, 56, 57, 58, 59, 60, 61, 62, 63] (by decide +kernel) (by decide +kernel)
set_option maxRecDepth 20000 in
theorem gX5_whyNoCommand_X5_whyNoWithdraw : GoodIn wsX5_whyNoCommand (wsV RX5 153 RX5 yX5_whyNoWithdraw wsX5_whyNoWithdraw) := goodIn_app (goodIn_of _ (by decide +kernel)) ggX5_whyNoCommand_X5_whyNoWithdraw
set_option maxRecDepth 20000 in
theorem ggX5_doCommand_X5_doBegin : GoodIn wsX5_doCommand wsX5_doBegin := goodIn_r _ [8, 9, 10, 11, 12, 7, 13, 14, 15, 16, 17, 117, 118, 119, 120, 121, 122, 123, 124, 125, 126, 127, 128, 129, 130] (by decide +kernel) (by decide +kernel)
set_option maxRecDepth 20000 in
theorem gX5_doCommand_X5_doBegin : GoodIn wsX5_doCommand (wsV RX5 115 RX5 yX5_doBegin wsX5_doBegin) := goodIn_app (goodIn_of _ (by decide +kernel)) ggX5_doCommand_X5_doBegin
set_option maxRecDepth 20000 in
theorem ggX5_doCommand_X5_doRequest : GoodIn wsX5_doCommand wsX5_doRequest := goodIn_r _ [21, 22, 23, 24, 25, 7, 26, 9, 27, 28, 29, 30, 31, 32, 33, 34, 35, 36, 37, 38, 39, 40, 41, 42, 43, 44, 45, 46, 47, 48, 49, 14, 15, 16, 17, 10, 11, 12, 13, 50, 51, 52, 53, 54, 55, 56, 57, 58, 59, 60, 61, 62, 63, 64, 65, 66, 67, 68, 69, 70, 71, 72, 73, 74, 75, 76, 77, 78, 79, 80, 81, 82, 83, 84, 85, 86, 87, 88, 89, 90, 91, 92, 93, 94, 95, 96, 97, 98, 99, 100, 117, 118, 119, 120, 121, 122, 123, 124, 125, 126, 127, 128, 129, 130] (by decide +kernel) (by decide +kernel)
set_option maxRecDepth 20000 in
theorem gX5_doCommand_X5_doRequest : GoodIn wsX5_doCommand (wsV RX5 144 RX5 yX5_doRequest wsX5_doRequest) := goodIn_app (goodIn_of _ (by decide +kernel)) ggX5_doCommand_X5_doRequest
set_option maxRecDepth 20000 in
theorem ggX5_doCommand_X5_doWork : GoodIn wsX5_doCommand wsX5_doWork := goodIn_r _ [104, 14, 15, 16, 7, 17, 9, 10, 11, 12, 13, 117, 118, 119, 120, 121, 122, 123, 124, 125, 126, 127, 128, 129, 130] (by decide +kernel) (by decide +kernel)
set_option maxRecDepth 20000 in
theorem gX5_doCommand_X5_doWork : GoodIn wsX5_doCommand (wsV RX5 150 RX5 yX5_doWork wsX5_doWork) := goodIn_app (goodIn_of _ (by decide +kernel)) ggX5_doCommand_X5_doWork
set_option maxRecDepth 20000 in
theorem ggX5_doCommand_X5_doEnd : GoodIn wsX5_doCommand wsX5_doEnd := goodIn_r _ [108, 14, 15, 16, 7, 17, 9, 89, 90, 91, 92, 81, 82, 83, 84, 50, 51, 52, 53, 31, 32, 33, 34, 10, 11, 12, 13, 93, 94, 95, 96, 46, 47, 48, 49, 109, 110, 111, 112, 97, 98, 99, 100, 35, 36, 37, 38, 23, 24, 25, 26, 39, 40, 41, 42, 43, 44, 45, 117, 118, 119, 120, 121, 122, 123, 124, 125, 126, 127, 128, 129, 130] (by decide +kernel) (by decide +kernel)
set_option maxRecDepth 20000 in
theorem gX5_doCommand_X5_doEnd : GoodIn wsX5_doCommand (wsV RX5 162 RX5 yX5_doEnd wsX5_doEnd) := goodIn_app (goodIn_of _ (by decide +kernel)) ggX5_doCommand_X5_doEnd
set_option maxRecDepth 20000 in
theorem ggX5_doCommand_X5_doWithdraw : GoodIn wsX5_doCommand wsX5_doWithdraw := goodIn_r _ [116, 89, 90, 91, 7, 92, 9, 14, 15, 16, 17, 81, 82, 83, 84, 50, 51, 52, 53, 31, 32, 33, 34, 10, 11, 12, 13, 97, 98, 99, 100, 35, 36, 37, 38, 23, 24, 25, 26, 39, 40, 41, 42, 43, 44, 45, 46, 47, 48, 49, 117, 118, 119, 120, 121, 122, 123, 124, 125, 126, 127, 128, 129, 130] (by decide +kernel) (by decide +kernel)
set_option maxRecDepth 20000 in
theorem gX5_doCommand_X5_doWithdraw : GoodIn wsX5_doCommand (wsV RX5 156 RX5 yX5_doWithdraw wsX5_doWithdraw) := goodIn_app (goodIn_of _ (by decide +kernel)) ggX5_doCommand_X5_doWithdraw
set_option maxRecDepth 20000 in
theorem ggX5_runText_X5_findError : GoodIn wsX5_runText wsX5_findError := goodIn_r _ [7, 2, 8, 9, 10, 11, 6, 12, 13, 14, 15, 16, 17, 18, 19, 20, 21, 22, 23, 24, 25, 26, 190, 191, 192, 193, 194, 195, 196, 197, 198, 199, 200, 201, 202, 203] (by decide +kernel) (by decide +kernel)
set_option maxRecDepth 20000 in
theorem gX5_runText_X5_findError : GoodIn wsX5_runText (wsV RX5 189 RX5 yX5_findError wsX5_findError) := goodIn_app (goodIn_of _ (by decide +kernel)) ggX5_runText_X5_findError
set_option maxRecDepth 20000 in
theorem ggX5_runText_X5_save : GoodIn wsX5_runText wsX5_save := goodIn_r _ [30, 31, 32, 33, 190, 191, 192, 193, 194, 195, 196, 197, 198, 199, 200, 201, 202, 203] (by decide +kernel) (by decide +kernel)
set_option maxRecDepth 20000 in
theorem gX5_runText_X5_save : GoodIn wsX5_runText (wsV RX5 112 RX5 yX5_save wsX5_save) := goodIn_app (goodIn_of _ (by decide +kernel)) ggX5_runText_X5_save
set_option maxRecDepth 20000 in
theorem ggX5_runText_X5_readCommand : GoodIn wsX5_runText wsX5_readCommand := goodIn_r _ [12, 2, 8, 13, 14, 15, 16, 17, 18, 6, 19, 20, 21, 22, 23, 24, 25, 26, 190, 191, 192, 193, 194, 195, 196, 197, 198, 199, 200, 201, 202, 203] (by decide +kernel) (by decide +kernel)
set_option maxRecDepth 20000 in
theorem gX5_runText_X5_readCommand : GoodIn wsX5_runText (wsV RX5 186 RX5 yX5_readCommand wsX5_readCommand) := goodIn_app (goodIn_of _ (by decide +kernel)) ggX5_runText_X5_readCommand
set_option maxRecDepth 20000 in
theorem ggX5_runText_X5_whyNoCommand : GoodIn wsX5_runText wsX5_whyNoCommand := goodIn_r _ [37, 13, 14, 15, 38, 39, 40, 6, 41, 42, 43, 44, 20, 21, 22, 45, 46, 47, 48, 33, 49, 50, 51, 52, 53, 54, 55, 56, 57, 58, 59, 60, 61, 62, 63, 64, 65, 66, 67, 68, 69, 70, 71, 72, 73, 74, 75, 76, 77, 78, 190, 191, 192, 193, 194, 195, 196, 197, 198, 199, 200, 201, 202, 203] (by decide +kernel) (by decide +kernel)
set_option maxRecDepth 20000 in
theorem gX5_runText_X5_whyNoCommand : GoodIn wsX5_runText (wsV RX5 192 RX5 yX5_whyNoCommand wsX5_whyNoCommand) := goodIn_app (goodIn_of _ (by decide +kernel)) ggX5_runText_X5_whyNoCommand
set_option maxRecDepth 20000 in
theorem ggX5_runText_X5_doCommand : GoodIn wsX5_runText wsX5_doCommand := goodIn_r _ [82, 13, 14, 15, 83, 84, 85, 6, 86, 33, 87, 88, 89, 90, 45, 46, 47, 48, 91, 92, 93, 94, 95, 96, 97, 98, 99, 100, 101, 102, 103, 104, 105, 106, 107, 108, 109, 110, 111, 112, 113, 114, 115, 116, 117, 118, 119, 120, 121, 122, 123, 124, 125, 126, 127, 128, 129, 130, 131, 132, 133, 134, 135, 136, 137, 138, 139, 140, 141, 142, 143, 144, 145, 146, 147, 148, 149, 150, 151, 152, 153, 154, 155, 156, 157, 158, 159, 160, 161, 162, 163, 164, 165, 166, 167, 168, 169, 170, 171, 172, 173, 174, 175, 176, 177, 178, 179, 180, 181, 182, 183, 184, 185, 186, 187, 188, 189, 190, 191, 192, 193, 194, 195, 196, 197, 198, 199, 200, 201, 202, 203] (by decide +kernel) (by decide +kernel)
set_option maxRecDepth 20000 in
theorem gX5_runText_X5_doCommand : GoodIn wsX5_runText (wsV RX5 195 RX5 yX5_doCommand wsX5_doCommand) := goodIn_app (goodIn_of _ (by decide +kernel)) ggX5_runText_X5_doCommand
set_option maxRecDepth 20000 in
theorem ggX5_told_X5_isTransaction : GoodIn wsX5_told wsX5_isTransaction := goodIn_r _ [5, 6, 7, 4, 8] (by decide +kernel) (by decide +kernel)
set_option maxRecDepth 20000 in
theorem gX5_told_X5_isTransaction : GoodIn wsX5_told (va_wsS RX5 106 yX5_isTransaction wsX5_isTransaction) := goodIn_app (goodIn_of _ (by decide +kernel)) ggX5_told_X5_isTransaction
set_option maxRecDepth 20000 in
theorem ggX5_told_X5_of : GoodIn wsX5_told wsX5_of := goodIn_r _ [12, 13, 14, 15, 16, 17, 18, 19, 20, 21, 22, 23, 24, 25, 26, 27] (by decide +kernel) (by decide +kernel)
set_option maxRecDepth 20000 in
theorem gX5_told_X5_of : GoodIn wsX5_told (wsV RX5 40 RX5 yX5_of wsX5_of) := goodIn_app (goodIn_of _ (by decide +kernel)) ggX5_told_X5_of
set_option maxRecDepth 20000 in
theorem ggX5_state_X5_told : GoodIn wsX5_state wsX5_told := goodIn_r _ [5, 6, 7, 8, 4, 9, 10, 11, 12, 13, 14, 15, 16, 17, 18, 19, 20, 21, 22, 23, 24, 25, 26, 27, 28, 29, 30, 31] (by decide +kernel) (by decide +kernel)
set_option maxRecDepth 20000 in
theorem gX5_state_X5_told : GoodIn wsX5_state (wsV RX5 198 RX5 yX5_told wsX5_told) := goodIn_app (goodIn_of _ (by decide +kernel)) ggX5_state_X5_told
set_option maxRecDepth 20000 in
theorem ggX5_workOf_X5_told : GoodIn wsX5_workOf wsX5_told := goodIn_r _ [5, 6, 7, 8, 4, 9, 10, 11, 12, 13, 14, 15, 16, 17, 18, 19, 20, 21, 22, 23, 24, 25, 26, 27, 28, 29, 30, 31] (by decide +kernel) (by decide +kernel)
set_option maxRecDepth 20000 in
theorem gX5_workOf_X5_told : GoodIn wsX5_workOf (wsV RX5 198 RX5 yX5_told wsX5_told) := goodIn_app (goodIn_of _ (by decide +kernel)) ggX5_workOf_X5_told
set_option maxRecDepth 20000 in
theorem ggX5_abortsOf_X5_told : GoodIn wsX5_abortsOf wsX5_told := goodIn_r _ [5, 6, 7, 8, 4, 9, 10, 11, 12, 13, 14, 15, 16, 17, 18, 19, 20, 21, 22, 23, 24, 25, 26, 27, 28, 29, 30, 31] (by decide +kernel) (by decide +kernel)
set_option maxRecDepth 20000 in
theorem gX5_abortsOf_X5_told : GoodIn wsX5_abortsOf (wsV RX5 198 RX5 yX5_told wsX5_told) := goodIn_app (goodIn_of _ (by decide +kernel)) ggX5_abortsOf_X5_told
set_option maxRecDepth 20000 in
theorem ggX5_birthOf_X5_told : GoodIn wsX5_birthOf wsX5_told := goodIn_r _ [5, 6, 7, 8, 4, 9, 10, 11, 12, 13, 14, 15, 16, 17, 18, 19, 20, 21, 22, 23, 24, 25, 26, 27, 28, 29, 30, 31] (by decide +kernel) (by decide +kernel)
set_option maxRecDepth 20000 in
theorem gX5_birthOf_X5_told : GoodIn wsX5_birthOf (wsV RX5 198 RX5 yX5_told wsX5_told) := goodIn_app (goodIn_of _ (by decide +kernel)) ggX5_birthOf_X5_told
set_option maxRecDepth 20000 in
theorem ggX5_held_X5_isTransaction : GoodIn wsX5_held wsX5_isTransaction := goodIn_r _ [5, 6, 7, 4, 8] (by decide +kernel) (by decide +kernel)
set_option maxRecDepth 20000 in
theorem gX5_held_X5_isTransaction : GoodIn wsX5_held (va_wsS RX5 106 yX5_isTransaction wsX5_isTransaction) := goodIn_app (goodIn_of _ (by decide +kernel)) ggX5_held_X5_isTransaction
set_option maxRecDepth 20000 in
theorem ggX5_held_X5_isResource : GoodIn wsX5_held wsX5_isResource := goodIn_r _ [11, 6, 7, 4, 8] (by decide +kernel) (by decide +kernel)
set_option maxRecDepth 20000 in
theorem gX5_held_X5_isResource : GoodIn wsX5_held (va_wsS RX5 118 yX5_isResource wsX5_isResource) := goodIn_app (goodIn_of _ (by decide +kernel)) ggX5_held_X5_isResource
set_option maxRecDepth 20000 in
theorem ggX5_held_X5_lock : GoodIn wsX5_held wsX5_lock := goodIn_r _ [15, 16, 17, 18, 19, 20, 21, 22, 23, 24, 25, 26, 27, 28, 29, 30] (by decide +kernel) (by decide +kernel)
set_option maxRecDepth 20000 in
theorem gX5_held_X5_lock : GoodIn wsX5_held (wsV RX5 51 RX5 yX5_lock wsX5_lock) := goodIn_app (goodIn_of _ (by decide +kernel)) ggX5_held_X5_lock
set_option maxRecDepth 20000 in
theorem ggX5_awaited_X5_told : GoodIn wsX5_awaited wsX5_told := goodIn_r _ [5, 6, 7, 8, 4, 9, 10, 11, 12, 13, 14, 15, 16, 17, 18, 19, 20, 21, 22, 23, 24, 25, 26, 27, 28, 29, 30, 31] (by decide +kernel) (by decide +kernel)
set_option maxRecDepth 20000 in
theorem gX5_awaited_X5_told : GoodIn wsX5_awaited (wsV RX5 198 RX5 yX5_told wsX5_told) := goodIn_app (goodIn_of _ (by decide +kernel)) ggX5_awaited_X5_told
set_option maxRecDepth 20000 in
theorem ggX5_waitedFor_X5_waits : GoodIn wsX5_waitedFor wsX5_waits := goodIn_r _ [5, 6, 7, 8, 4, 9, 10, 11, 12, 13, 14, 15, 16, 17, 18, 19, 20, 21, 22, 23, 24, 25, 26, 27, 28, 29, 30, 31, 32, 33, 34, 35, 36, 37, 38, 39] (by decide +kernel) (by decide +kernel)
set_option maxRecDepth 20000 in
theorem gX5_waitedFor_X5_waits : GoodIn wsX5_waitedFor (wsV RX5 80 RX5 yX5_waits wsX5_waits) := goodIn_app (goodIn_of _ (by decide +kernel)) ggX5_waitedFor_X5_waits
set_option maxRecDepth 20000 in
theorem ggX5_waitsFor_X5_isTransaction : GoodIn wsX5_waitsFor wsX5_isTransaction := goodIn_r _ [5, 6, 7, 4, 8] (by decide +kernel) (by decide +kernel)
set_option maxRecDepth 20000 in
theorem gX5_waitsFor_X5_isTransaction : GoodIn wsX5_waitsFor (va_wsS RX5 106 yX5_isTransaction wsX5_isTransaction) := goodIn_app (goodIn_of _ (by decide +kernel)) ggX5_waitsFor_X5_isTransaction
set_option maxRecDepth 20000 in
theorem ggX5_waitsFor_X5_waitedFor : GoodIn wsX5_waitsFor wsX5_waitedFor := goodIn_r _ [12, 13, 14, 15, 4, 16, 17, 18, 19, 20, 21, 22, 23, 24, 25, 26, 27, 28, 29, 30, 31, 32, 33, 34, 35, 36, 37, 38, 39, 40, 41, 42, 43, 44, 45, 46, 47, 48, 49, 50] (by decide +kernel) (by decide +kernel)
set_option maxRecDepth 20000 in
theorem gX5_waitsFor_X5_waitedFor : GoodIn wsX5_waitsFor (wsV RX5 201 RX5 yX5_waitedFor wsX5_waitedFor) := goodIn_app (goodIn_of _ (by decide +kernel)) ggX5_waitsFor_X5_waitedFor
set_option maxRecDepth 20000 in
theorem ggX5_blockers_X5_isTransaction : GoodIn wsX5_blockers wsX5_isTransaction := goodIn_r _ [5, 6, 7, 4, 8] (by decide +kernel) (by decide +kernel)
set_option maxRecDepth 20000 in
theorem gX5_blockers_X5_isTransaction : GoodIn wsX5_blockers (va_wsS RX5 106 yX5_isTransaction wsX5_isTransaction) := goodIn_app (goodIn_of _ (by decide +kernel)) ggX5_blockers_X5_isTransaction
set_option maxRecDepth 20000 in
theorem ggX5_blockers_X5_waitedFor : GoodIn wsX5_blockers wsX5_waitedFor := goodIn_r _ [12, 13, 14, 15, 4, 16, 17, 18, 19, 20, 21, 22, 23, 24, 25, 26, 27, 28, 29, 30, 31, 32, 33, 34, 35, 36, 37, 38, 39, 40, 41, 42, 43, 44, 45, 46, 47, 48, 49, 50] (by decide +kernel) (by decide +kernel)
set_option maxRecDepth 20000 in
theorem gX5_blockers_X5_waitedFor : GoodIn wsX5_blockers (wsV RX5 201 RX5 yX5_waitedFor wsX5_waitedFor) := goodIn_app (goodIn_of _ (by decide +kernel)) ggX5_blockers_X5_waitedFor
set_option maxRecDepth 20000 in
theorem ggX5_holders_X5_isResource : GoodIn wsX5_holders wsX5_isResource := goodIn_r _ [5, 6, 7, 4, 8] (by decide +kernel) (by decide +kernel)
set_option maxRecDepth 20000 in
theorem gX5_holders_X5_isResource : GoodIn wsX5_holders (va_wsS RX5 118 yX5_isResource wsX5_isResource) := goodIn_app (goodIn_of _ (by decide +kernel)) ggX5_holders_X5_isResource
set_option maxRecDepth 20000 in
theorem ggX5_holders_X5_lock : GoodIn wsX5_holders wsX5_lock := goodIn_r _ [12, 13, 14, 15, 16, 17, 18, 19, 20, 21, 22, 23, 24, 25, 26, 27] (by decide +kernel) (by decide +kernel)
set_option maxRecDepth 20000 in
theorem gX5_holders_X5_lock : GoodIn wsX5_holders (wsV RX5 51 RX5 yX5_lock wsX5_lock) := goodIn_app (goodIn_of _ (by decide +kernel)) ggX5_holders_X5_lock
set_option maxRecDepth 20000 in
theorem ggX5_queueLength_X5_isResource : GoodIn wsX5_queueLength wsX5_isResource := goodIn_r _ [5, 6, 7, 4, 8] (by decide +kernel) (by decide +kernel)
set_option maxRecDepth 20000 in
theorem gX5_queueLength_X5_isResource : GoodIn wsX5_queueLength (va_wsS RX5 118 yX5_isResource wsX5_isResource) := goodIn_app (goodIn_of _ (by decide +kernel)) ggX5_queueLength_X5_isResource
set_option maxRecDepth 20000 in
theorem ggX5_queueLength_X5_queueOf : GoodIn wsX5_queueLength wsX5_queueOf := goodIn_r _ [12, 13, 14, 15, 16, 17, 18, 19, 20, 21, 22, 23, 24, 25, 26, 27] (by decide +kernel) (by decide +kernel)
set_option maxRecDepth 20000 in
theorem gX5_queueLength_X5_queueOf : GoodIn wsX5_queueLength (wsV RX5 61 RX5 yX5_queueOf wsX5_queueOf) := goodIn_app (goodIn_of _ (by decide +kernel)) ggX5_queueLength_X5_queueOf
set_option maxRecDepth 20000 in
theorem ggX5_queued_X5_isResource : GoodIn wsX5_queued wsX5_isResource := goodIn_r _ [5, 6, 7, 4, 8] (by decide +kernel) (by decide +kernel)
set_option maxRecDepth 20000 in
theorem gX5_queued_X5_isResource : GoodIn wsX5_queued (va_wsS RX5 118 yX5_isResource wsX5_isResource) := goodIn_app (goodIn_of _ (by decide +kernel)) ggX5_queued_X5_isResource
set_option maxRecDepth 20000 in
theorem ggX5_queued_X5_queueOf : GoodIn wsX5_queued wsX5_queueOf := goodIn_r _ [12, 13, 22, 23, 24, 25, 26, 27, 28, 29, 30, 31, 32, 33, 34, 35] (by decide +kernel) (by decide +kernel)
set_option maxRecDepth 20000 in
theorem gX5_queued_X5_queueOf : GoodIn wsX5_queued (wsV RX5 61 RX5 yX5_queueOf wsX5_queueOf) := goodIn_app (goodIn_of _ (by decide +kernel)) ggX5_queued_X5_queueOf
set_option maxRecDepth 20000 in
theorem ggX5_queued_X5_queuedAt : GoodIn wsX5_queued wsX5_queuedAt := goodIn_r _ [17, 13, 22, 23, 24, 25, 26, 27, 28, 29, 30, 31, 32, 33, 34, 35] (by decide +kernel) (by decide +kernel)
set_option maxRecDepth 20000 in
theorem gX5_queued_X5_queuedAt : GoodIn wsX5_queued (wsV RX5 65 RX5 yX5_queuedAt wsX5_queuedAt) := goodIn_app (goodIn_of _ (by decide +kernel)) ggX5_queued_X5_queuedAt
set_option maxRecDepth 20000 in
theorem ggX5_queued_X5_of : GoodIn wsX5_queued wsX5_of := goodIn_r _ [21, 13, 22, 23, 24, 25, 26, 27, 28, 29, 30, 31, 32, 33, 34, 35] (by decide +kernel) (by decide +kernel)
set_option maxRecDepth 20000 in
theorem gX5_queued_X5_of : GoodIn wsX5_queued (wsV RX5 40 RX5 yX5_of wsX5_of) := goodIn_app (goodIn_of _ (by decide +kernel)) ggX5_queued_X5_of
set_option maxRecDepth 20000 in
theorem ggX5_tryRequest_X5_doRequest : GoodIn wsX5_tryRequest wsX5_doRequest := goodIn_r _ [7, 8, 9, 10, 11, 6, 12, 2, 13, 14, 15, 16, 17, 18, 19, 20, 21, 22, 23, 24, 25, 26, 27, 28, 29, 30, 31, 32, 33, 34, 35, 36, 37, 38, 39, 40, 41, 42, 43, 44, 45, 46, 47, 48, 49, 50, 51, 52, 53, 54, 55, 56, 57, 58, 59, 60, 61, 62, 63, 64, 65, 66, 67, 68, 69, 70, 71, 72, 73, 74, 75, 76, 77, 78, 79, 80, 81, 82, 83, 84, 85, 86, 87, 88, 89, 90, 91, 92, 93, 94, 95, 96, 97, 98, 99, 100, 101, 102, 103, 104, 105, 106, 107, 108] (by decide +kernel) (by decide +kernel)
set_option maxRecDepth 20000 in
theorem gX5_tryRequest_X5_doRequest : GoodIn wsX5_tryRequest (wsV RX5 144 RX5 yX5_doRequest wsX5_doRequest) := goodIn_app (goodIn_of _ (by decide +kernel)) ggX5_tryRequest_X5_doRequest
set_option maxRecDepth 20000 in
theorem ggX5_ifRequested_X5_whyNoRequest : GoodIn wsX5_ifRequested wsX5_whyNoRequest := goodIn_r _ [6, 7, 8, 5, 9, 10, 11, 12, 13, 14, 15, 16, 17, 18, 19, 20, 21, 22, 23, 24, 25, 26, 27, 120, 121, 122, 123, 124, 125, 126, 127, 128, 129, 130, 131, 132, 133] (by decide +kernel) (by decide +kernel)
set_option maxRecDepth 20000 in
theorem gX5_ifRequested_X5_whyNoRequest : GoodIn wsX5_ifRequested (wsV RX5 140 RX5 yX5_whyNoRequest wsX5_whyNoRequest) := goodIn_app (goodIn_of _ (by decide +kernel)) ggX5_ifRequested_X5_whyNoRequest
set_option maxRecDepth 20000 in
theorem ggX5_ifRequested_X5_tryRequest : GoodIn wsX5_ifRequested wsX5_tryRequest := goodIn_r _ [31, 32, 27, 33, 34, 35, 5, 36, 37, 38, 39, 40, 41, 42, 43, 44, 45, 46, 47, 48, 49, 50, 51, 52, 53, 54, 55, 56, 57, 58, 59, 60, 61, 62, 63, 64, 23, 24, 25, 26, 65, 66, 67, 68, 69, 70, 71, 72, 73, 74, 75, 76, 77, 78, 79, 80, 81, 82, 83, 84, 85, 86, 87, 88, 89, 90, 91, 92, 93, 94, 95, 96, 97, 98, 99, 100, 101, 102, 103, 104, 105, 106, 107, 108, 109, 110, 111, 112, 113, 114, 115, 116, 117, 118, 119, 120, 121, 122, 123, 124, 125, 126, 127, 128, 129, 130, 131, 132, 133] (by decide +kernel) (by decide +kernel)
set_option maxRecDepth 20000 in
theorem gX5_ifRequested_X5_tryRequest : GoodIn wsX5_ifRequested (wsV RX5 204 RX5 yX5_tryRequest wsX5_tryRequest) := goodIn_app (goodIn_of _ (by decide +kernel)) ggX5_ifRequested_X5_tryRequest
set_option maxRecDepth 20000 in
theorem ggX5_victimsOf_X5_whyNoRequest : GoodIn wsX5_victimsOf wsX5_whyNoRequest := goodIn_r _ [7, 8, 9, 6, 10, 11, 12, 13, 14, 15, 16, 17, 18, 19, 20, 21, 22, 23, 24, 25, 26, 27, 28, 120, 121, 122, 123, 124, 125, 126, 127, 128, 129, 130, 131, 132, 133] (by decide +kernel) (by decide +kernel)
set_option maxRecDepth 20000 in
theorem gX5_victimsOf_X5_whyNoRequest : GoodIn wsX5_victimsOf (wsV RX5 140 RX5 yX5_whyNoRequest wsX5_whyNoRequest) := goodIn_app (goodIn_of _ (by decide +kernel)) ggX5_victimsOf_X5_whyNoRequest
set_option maxRecDepth 20000 in
theorem ggX5_victimsOf_X5_tryRequest : GoodIn wsX5_victimsOf wsX5_tryRequest := goodIn_r _ [32, 33, 28, 34, 35, 36, 6, 37, 2, 38, 39, 40, 41, 42, 43, 44, 45, 46, 47, 48, 49, 50, 51, 52, 53, 54, 55, 56, 57, 58, 59, 60, 61, 62, 63, 64, 24, 25, 26, 27, 65, 66, 67, 68, 69, 70, 71, 72, 73, 74, 75, 76, 77, 78, 79, 80, 81, 82, 83, 84, 85, 86, 87, 88, 89, 90, 91, 92, 93, 94, 95, 96, 97, 98, 99, 100, 101, 102, 103, 104, 105, 106, 107, 108, 109, 110, 111, 112, 113, 114, 115, 116, 117, 118, 119, 120, 121, 122, 123, 124, 125, 126, 127, 128, 129, 130, 131, 132, 133] (by decide +kernel) (by decide +kernel)
set_option maxRecDepth 20000 in
theorem gX5_victimsOf_X5_tryRequest : GoodIn wsX5_victimsOf (wsV RX5 204 RX5 yX5_tryRequest wsX5_tryRequest) := goodIn_app (goodIn_of _ (by decide +kernel)) ggX5_victimsOf_X5_tryRequest
