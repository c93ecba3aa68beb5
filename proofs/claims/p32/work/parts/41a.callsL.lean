set_option maxRecDepth 20000 in
theorem ggL_begin_X4_begin : GoodIn wsL_begin wsX4_begin := goodIn_ca (goodIn_ca (goodIn_r _ [7, 8, 9, 10, 11, 12, 6, 13, 14, 15, 16, 17, 18, 19, 20, 21, 22, 23, 24, 25, 26, 27, 28, 29, 30, 31, 32, 33, 34, 35, 36, 37, 38, 39, 40, 41, 42, 43, 44, 45, 46, 47, 48, 49, 50, 51, 52, 53, 54, 55, 56, 57, 58, 59, 60, 61, 62, 63, 64, 65, 66, 67, 68, 69, 70, 71, 72, 73, 74, 75] (by decide +kernel) (by decide +kernel)) (goodIn_sub (fun _ h => List.mem_cons_of_mem _ (List.mem_append_left _ (List.mem_append_right _ h))) (by decide +kernel))) (goodIn_sub (fun _ h => List.mem_cons_of_mem _ (List.mem_append_right _ h)) (by decide +kernel))
set_option maxRecDepth 20000 in
theorem gL_begin_X4_begin : GoodIn wsL_begin (wsV RL 9 RX4 yX4_begin wsX4_begin) := goodIn_app (goodIn_of _ (by decide +kernel)) ggL_begin_X4_begin
set_option maxRecDepth 20000 in
theorem ggL_request_X4_request : GoodIn wsL_request wsX4_request := goodIn_ca (goodIn_ca (goodIn_ca (goodIn_r _ [8, 9, 10, 11, 12, 7, 13, 14, 15, 16, 17, 18, 19, 20, 21, 22, 23, 24, 25, 26, 27, 28, 29, 30, 31, 32, 33, 34, 35, 36, 37, 38, 39, 40, 41, 42, 43, 44, 45, 46, 47, 48, 49, 50, 51, 52, 53, 54, 55, 56, 57, 58, 59, 60, 61, 62, 63, 64, 65, 66, 67, 68, 69, 70, 71, 72, 73, 74, 75, 76, 77, 78, 79, 80, 81, 82, 83, 84, 85, 86, 87, 88, 89, 90, 91, 92, 93, 94, 95, 96, 97, 98, 99, 100, 101, 102, 103, 104, 105, 106, 107, 108, 109, 110, 111, 112, 113, 114, 115, 116, 117, 118, 119, 120, 121, 122, 123, 124, 125, 126, 127, 128, 129, 130, 131, 132, 133, 134, 135, 136, 137, 138, 139, 140, 141, 142, 143, 144, 145, 146, 147, 148, 149, 150, 151, 152, 153, 154, 155, 156, 157, 158, 159, 160, 161, 162, 163, 164, 165, 166, 167, 168] (by decide +kernel) (by decide +kernel)) (goodIn_sub (fun _ h => List.mem_cons_of_mem _ (List.mem_append_left _ (List.mem_append_left _ (List.mem_append_right _ h)))) (by decide +kernel))) (goodIn_sub (fun _ h => List.mem_cons_of_mem _ (List.mem_append_left _ (List.mem_append_right _ h))) (by decide +kernel))) (goodIn_sub (fun _ h => List.mem_cons_of_mem _ (List.mem_append_right _ h)) (by decide +kernel))
set_option maxRecDepth 20000 in
theorem gL_request_X4_request : GoodIn wsL_request (wsV RL 19 RX4 yX4_request wsX4_request) := goodIn_app (goodIn_of _ (by decide +kernel)) ggL_request_X4_request
set_option maxRecDepth 20000 in
theorem ggL_work_X4_work : GoodIn wsL_work wsX4_work := goodIn_ca (goodIn_ca (goodIn_ca (goodIn_r _ [8, 9, 10, 11, 12, 13, 14, 15, 7, 16, 17, 18, 19, 20, 21, 22, 23, 24, 25, 26, 27, 28, 29, 30, 31, 32, 33, 34, 35, 36, 37, 38, 39, 40, 41, 42, 43, 44, 45, 46, 47, 48, 49, 50, 51, 52, 53, 54, 55, 56, 57, 58, 59, 60, 61, 62, 63, 64, 65, 66, 67, 68, 69, 70, 71, 72, 73, 74] (by decide +kernel) (by decide +kernel)) (goodIn_sub (fun _ h => List.mem_cons_of_mem _ (List.mem_append_left _ (List.mem_append_left _ (List.mem_append_right _ h)))) (by decide +kernel))) (goodIn_sub (fun _ h => List.mem_cons_of_mem _ (List.mem_append_left _ (List.mem_append_right _ h))) (by decide +kernel))) (goodIn_sub (fun _ h => List.mem_cons_of_mem _ (List.mem_append_right _ h)) (by decide +kernel))
set_option maxRecDepth 20000 in
theorem gL_work_X4_work : GoodIn wsL_work (wsV RL 25 RX4 yX4_work wsX4_work) := goodIn_app (goodIn_of _ (by decide +kernel)) ggL_work_X4_work
set_option maxRecDepth 20000 in
theorem ggL_withdraw_X4_withdraw : GoodIn wsL_withdraw wsX4_withdraw := goodIn_ca (goodIn_ca (goodIn_r _ [7, 8, 9, 10, 11, 6, 12, 13, 14, 15, 16, 17, 18, 19, 20, 21, 22, 23, 24, 25, 26, 27, 28, 29, 30, 31, 32, 33, 34, 35, 36, 37, 38, 39, 40, 41, 42, 43, 44, 45, 46, 47, 48, 49, 50, 51, 52, 53, 54, 55, 56, 57, 58, 59, 60, 61, 62, 63, 64, 65, 66, 67, 68, 69, 70, 71, 72, 73, 74, 75, 76, 77, 78, 79, 80, 81, 82, 83, 84, 85, 86, 87, 88, 89, 90, 91, 92, 93, 94] (by decide +kernel) (by decide +kernel)) (goodIn_sub (fun _ h => List.mem_cons_of_mem _ (List.mem_append_left _ (List.mem_append_right _ h))) (by decide +kernel))) (goodIn_sub (fun _ h => List.mem_cons_of_mem _ (List.mem_append_right _ h)) (by decide +kernel))
set_option maxRecDepth 20000 in
theorem gL_withdraw_X4_withdraw : GoodIn wsL_withdraw (wsV RL 29 RX4 yX4_withdraw wsX4_withdraw) := goodIn_app (goodIn_of _ (by decide +kernel)) ggL_withdraw_X4_withdraw
set_option maxRecDepth 20000 in
theorem ggL_commit_X4_commit : GoodIn wsL_commit wsX4_commit := goodIn_ca (goodIn_ca (goodIn_r _ [7, 8, 9, 10, 11, 6, 12, 13, 14, 15, 16, 17, 18, 19, 20, 21, 22, 23, 24, 25, 26, 27, 28, 29, 30, 31, 32, 33, 34, 35, 36, 37, 38, 39, 40, 41, 42, 43, 44, 45, 46, 47, 48, 49, 50, 51, 52, 53, 54, 55, 56, 57, 58, 59, 60, 61, 62, 63, 64, 65, 66, 67, 68, 69, 70, 71, 72, 73, 74, 75, 76, 77, 78, 79, 80, 81, 82, 83, 84, 85, 86, 87, 88, 89, 90, 91, 92, 93, 94, 95, 96, 97, 98] (by decide +kernel) (by decide +kernel)) (goodIn_sub (fun _ h => List.mem_cons_of_mem _ (List.mem_append_left _ (List.mem_append_right _ h))) (by decide +kernel))) (goodIn_sub (fun _ h => List.mem_cons_of_mem _ (List.mem_append_right _ h)) (by decide +kernel))
set_option maxRecDepth 20000 in
theorem gL_commit_X4_commit : GoodIn wsL_commit (wsV RL 32 RX4 yX4_commit wsX4_commit) := goodIn_app (goodIn_of _ (by decide +kernel)) ggL_commit_X4_commit
set_option maxRecDepth 20000 in
theorem ggL_rollBack_X4_rollBack : GoodIn wsL_rollBack wsX4_rollBack := goodIn_ca (goodIn_ca (goodIn_r _ [7, 8, 9, 10, 11, 6, 12, 13, 14, 15, 16, 17, 18, 19, 20, 21, 22, 23, 24, 25, 26, 27, 28, 29, 30, 31, 32, 33, 34, 35, 36, 37, 38, 39, 40, 41, 42, 43, 44, 45, 46, 47, 48, 49, 50, 51, 52, 53, 54, 55, 56, 57, 58, 59, 60, 61, 62, 63, 64, 65, 66, 67, 68, 69, 70, 71, 72, 73, 74, 75, 76, 77, 78, 79, 80, 81, 82, 83, 84, 85, 86, 87, 88, 89, 90, 91, 92, 93, 94, 95, 96, 97, 98] (by decide +kernel) (by decide +kernel)) (goodIn_sub (fun _ h => List.mem_cons_of_mem _ (List.mem_append_left _ (List.mem_append_right _ h))) (by decide +kernel))) (goodIn_sub (fun _ h => List.mem_cons_of_mem _ (List.mem_append_right _ h)) (by decide +kernel))
set_option maxRecDepth 20000 in
theorem gL_rollBack_X4_rollBack : GoodIn wsL_rollBack (wsV RL 35 RX4 yX4_rollBack wsX4_rollBack) := goodIn_app (goodIn_of _ (by decide +kernel)) ggL_rollBack_X4_rollBack
set_option maxRecDepth 20000 in
theorem ggL_ifRequested_X4_ifRequested : GoodIn wsL_ifRequested wsX4_ifRequested := goodIn_ca (goodIn_ca (goodIn_r _ [7, 8, 9, 10, 11, 6, 12, 13, 14, 15, 16, 17, 18, 19, 20, 21, 22, 23, 24, 25, 26, 27, 28, 29, 30, 31, 32, 33, 34, 35, 36, 37, 38, 39, 40, 41, 42, 43, 44, 45, 46, 47, 48, 49, 50, 51, 52, 53, 54, 55, 56, 57, 58, 59, 60, 61, 62, 63, 64, 65, 66, 67, 68, 69, 70, 71, 72, 73, 74, 75, 76, 77, 78, 79, 80, 81, 82, 83, 84, 85, 86, 87, 88, 89, 90, 91, 92, 93, 94, 95, 96, 97, 98, 99, 100, 101, 102, 103, 104, 105, 106, 107, 108, 109, 110, 111, 112, 113, 114, 115, 116, 117, 118, 119, 120, 121, 122, 123, 124, 125, 126, 127, 128, 129, 130, 131, 132, 133, 134, 135, 136, 137, 138, 139, 140, 141, 142, 143, 144, 145, 146, 147, 148, 149, 150, 151] (by decide +kernel) (by decide +kernel)) (goodIn_sub (fun _ h => List.mem_cons_of_mem _ (List.mem_append_left _ (List.mem_append_right _ h))) (by decide +kernel))) (goodIn_sub (fun _ h => List.mem_cons_of_mem _ (List.mem_append_right _ h)) (by decide +kernel))
set_option maxRecDepth 20000 in
theorem gL_ifRequested_X4_ifRequested : GoodIn wsL_ifRequested (wsV RL 38 RX4 yX4_ifRequested wsX4_ifRequested) := goodIn_app (goodIn_of _ (by decide +kernel)) ggL_ifRequested_X4_ifRequested
set_option maxRecDepth 20000 in
theorem ggL_victimsOf_X4_victimsOf : GoodIn wsL_victimsOf wsX4_victimsOf := goodIn_ca (goodIn_ca (goodIn_r _ [7, 8, 9, 10, 11, 6, 12, 13, 14, 15, 16, 17, 18, 19, 20, 21, 22, 23, 24, 25, 26, 27, 28, 29, 30, 31, 32, 33, 34, 35, 36, 37, 38, 39, 40, 41, 42, 43, 44, 45, 46, 47, 48, 49, 50, 51, 52, 53, 54, 55, 56, 57, 58, 59, 60, 61, 62, 63, 64, 65, 66, 67, 68, 69, 70, 71, 72, 73, 74, 75, 76, 77, 78, 79, 80, 81, 82, 83, 84, 85, 86, 87, 88, 89, 90, 91, 92, 93, 94, 95, 96, 97, 98, 99, 100, 101, 102, 103, 104, 105, 106, 107, 108, 109, 110, 111, 112, 113, 114, 115, 116, 117, 118, 119, 120, 121, 122, 123, 124, 125, 126, 127, 128, 129, 130, 131, 132, 133, 134, 135, 136, 137, 138, 139, 140, 141, 142, 143, 144, 145, 146, 147] (by decide +kernel) (by decide +kernel)) (goodIn_sub (fun _ h => List.mem_cons_of_mem _ (List.mem_append_left _ (List.mem_append_right _ h))) (by decide +kernel))) (goodIn_sub (fun _ h => List.mem_cons_of_mem _ (List.mem_append_right _ h)) (by decide +kernel))
set_option maxRecDepth 20000 in
theorem gL_victimsOf_X4_victimsOf : GoodIn wsL_victimsOf (wsV RL 41 RX4 yX4_victimsOf wsX4_victimsOf) := goodIn_app (goodIn_of _ (by decide +kernel)) ggL_victimsOf_X4_victimsOf
set_option maxRecDepth 20000 in
theorem ggL_queued_X4_queued : GoodIn wsL_queued wsX4_queued := goodIn_ca (goodIn_r _ [6, 7, 8, 9, 10, 11, 12, 13, 14, 5, 15, 16, 17, 18, 19, 20, 21, 22, 23, 24, 25, 26, 27, 28, 29, 30, 31] (by decide +kernel) (by decide +kernel)) (goodIn_sub (fun _ h => List.mem_cons_of_mem _ (List.mem_append_right _ h)) (by decide +kernel))
set_option maxRecDepth 20000 in
theorem gL_queued_X4_queued : GoodIn wsL_queued (wsV RL 44 RX4 yX4_queued wsX4_queued) := goodIn_app (goodIn_of _ (by decide +kernel)) ggL_queued_X4_queued
set_option maxRecDepth 20000 in
theorem ggL_state_X4_state : GoodIn wsL_state wsX4_state := goodIn_ca (goodIn_r _ [6, 7, 8, 9, 5, 10, 11, 12, 13, 14, 15, 16, 17, 18, 19, 20, 21, 22, 23, 24, 25, 26, 27, 28, 29, 30, 31, 32, 33, 34, 35] (by decide +kernel) (by decide +kernel)) (goodIn_sub (fun _ h => List.mem_cons_of_mem _ (List.mem_append_right _ h)) (by decide +kernel))
set_option maxRecDepth 20000 in
theorem gL_state_X4_state : GoodIn wsL_state (wsV RL 47 RX4 yX4_state wsX4_state) := goodIn_app (goodIn_of _ (by decide +kernel)) ggL_state_X4_state
set_option maxRecDepth 20000 in
theorem ggL_index_L_length : GoodIn wsL_index wsL_length := goodIn_r _ [4] (by decide +kernel) (by decide +kernel)
set_option maxRecDepth 20000 in
theorem gL_index_L_length : GoodIn wsL_index (va_wsS RL 52 yL_length wsL_length) := goodIn_app (goodIn_of _ (by decide +kernel)) ggL_index_L_length
set_option maxRecDepth 20000 in
theorem ggL_index_L_at : GoodIn wsL_index wsL_at := goodIn_r _ [7, 8] (by decide +kernel) (by decide +kernel)
set_option maxRecDepth 20000 in
theorem gL_index_L_at : GoodIn wsL_index (va_wsS RL 58 yL_at wsL_at) := goodIn_app (goodIn_of _ (by decide +kernel)) ggL_index_L_at
set_option maxRecDepth 20000 in
theorem ggL_canHold_L_lock : GoodIn wsL_canHold wsL_lock := goodIn_r _ [4] (by decide +kernel) (by decide +kernel)
set_option maxRecDepth 20000 in
theorem gL_canHold_L_lock : GoodIn wsL_canHold (va_wsS RL 62 yL_lock wsL_lock) := goodIn_app (goodIn_of _ (by decide +kernel)) ggL_canHold_L_lock
set_option maxRecDepth 20000 in
theorem ggL_remove_L_index : GoodIn wsL_remove wsL_index := goodIn_r _ [4, 5, 6, 3, 7, 8, 9, 10, 11] (by decide +kernel) (by decide +kernel)
set_option maxRecDepth 20000 in
theorem gL_remove_L_index : GoodIn wsL_remove (va_wsS RL 66 yL_index wsL_index) := goodIn_app (goodIn_of _ (by decide +kernel)) ggL_remove_L_index
set_option maxRecDepth 20000 in
theorem ggL_serve_L_at : GoodIn wsL_serve wsL_at := goodIn_r _ [4, 5] (by decide +kernel) (by decide +kernel)
set_option maxRecDepth 20000 in
theorem gL_serve_L_at : GoodIn wsL_serve (va_wsS RL 58 yL_at wsL_at) := goodIn_app (goodIn_of _ (by decide +kernel)) ggL_serve_L_at
set_option maxRecDepth 20000 in
theorem ggL_serve_L_canHold : GoodIn wsL_serve wsL_canHold := goodIn_r _ [8, 9, 10, 3, 11] (by decide +kernel) (by decide +kernel)
set_option maxRecDepth 20000 in
theorem gL_serve_L_canHold : GoodIn wsL_serve (va_wsS RL 69 yL_canHold wsL_canHold) := goodIn_app (goodIn_of _ (by decide +kernel)) ggL_serve_L_canHold
set_option maxRecDepth 20000 in
theorem ggL_serve_L_remove : GoodIn wsL_serve wsL_remove := goodIn_r _ [14, 15, 16, 3, 17, 18, 19, 20, 1, 2, 4, 5] (by decide +kernel) (by decide +kernel)
set_option maxRecDepth 20000 in
theorem gL_serve_L_remove : GoodIn wsL_serve (va_wsS RL 73 yL_remove wsL_remove) := goodIn_app (goodIn_of _ (by decide +kernel)) ggL_serve_L_remove
set_option maxRecDepth 20000 in
theorem ggL_serve_L_grant : GoodIn wsL_serve wsL_grant := goodIn_r _ [23] (by decide +kernel) (by decide +kernel)
set_option maxRecDepth 20000 in
theorem gL_serve_L_grant : GoodIn wsL_serve (va_wsS RL 77 yL_grant wsL_grant) := goodIn_app (goodIn_of _ (by decide +kernel)) ggL_serve_L_grant
set_option maxRecDepth 20000 in
theorem ggL_waitsFor_L_lock : GoodIn wsL_waitsFor wsL_lock := goodIn_r _ [4] (by decide +kernel) (by decide +kernel)
set_option maxRecDepth 20000 in
theorem gL_waitsFor_L_lock : GoodIn wsL_waitsFor (va_wsS RL 62 yL_lock wsL_lock) := goodIn_app (goodIn_of _ (by decide +kernel)) ggL_waitsFor_L_lock
set_option maxRecDepth 20000 in
theorem ggL_waitsFor_L_index : GoodIn wsL_waitsFor wsL_index := goodIn_r _ [7, 8, 9, 3, 10, 11, 12, 13, 14] (by decide +kernel) (by decide +kernel)
set_option maxRecDepth 20000 in
theorem gL_waitsFor_L_index : GoodIn wsL_waitsFor (va_wsS RL 66 yL_index wsL_index) := goodIn_app (goodIn_of _ (by decide +kernel)) ggL_waitsFor_L_index
set_option maxRecDepth 20000 in
theorem ggL_far_L_waitsFor : GoodIn wsL_far wsL_waitsFor := goodIn_r _ [4, 5, 6, 3, 7, 8, 9, 10, 11, 12, 13, 14, 15, 16, 17] (by decide +kernel) (by decide +kernel)
set_option maxRecDepth 20000 in
theorem gL_far_L_waitsFor : GoodIn wsL_far (va_wsS RL 81 yL_waitsFor wsL_waitsFor) := goodIn_app (goodIn_of _ (by decide +kernel)) ggL_far_L_waitsFor
set_option maxRecDepth 20000 in
theorem ggL_victim_L_waitsFor : GoodIn wsL_victim wsL_waitsFor := goodIn_r _ [4, 5, 6, 3, 7, 8, 9, 10, 11, 12, 13, 14, 15, 16, 17] (by decide +kernel) (by decide +kernel)
set_option maxRecDepth 20000 in
theorem gL_victim_L_waitsFor : GoodIn wsL_victim (va_wsS RL 81 yL_waitsFor wsL_waitsFor) := goodIn_app (goodIn_of _ (by decide +kernel)) ggL_victim_L_waitsFor
set_option maxRecDepth 20000 in
theorem ggL_victim_L_far : GoodIn wsL_victim wsL_far := goodIn_r _ [20, 1, 2, 3, 4, 5, 6, 7, 8, 9, 10, 11, 12, 13, 14, 15, 16, 17] (by decide +kernel) (by decide +kernel)
set_option maxRecDepth 20000 in
theorem gL_victim_L_far : GoodIn wsL_victim (va_wsS RL 85 yL_far wsL_far) := goodIn_app (goodIn_of _ (by decide +kernel)) ggL_victim_L_far
set_option maxRecDepth 20000 in
theorem ggL_requested_L_lock : GoodIn wsL_requested wsL_lock := goodIn_r _ [4] (by decide +kernel) (by decide +kernel)
set_option maxRecDepth 20000 in
theorem gL_requested_L_lock : GoodIn wsL_requested (va_wsS RL 62 yL_lock wsL_lock) := goodIn_app (goodIn_of _ (by decide +kernel)) ggL_requested_L_lock
set_option maxRecDepth 20000 in
theorem ggL_requested_L_canHold : GoodIn wsL_requested wsL_canHold := goodIn_r _ [7, 1, 2, 3, 4] (by decide +kernel) (by decide +kernel)
set_option maxRecDepth 20000 in
theorem gL_requested_L_canHold : GoodIn wsL_requested (va_wsS RL 69 yL_canHold wsL_canHold) := goodIn_app (goodIn_of _ (by decide +kernel)) ggL_requested_L_canHold
set_option maxRecDepth 20000 in
theorem ggL_requested_L_grant : GoodIn wsL_requested wsL_grant := goodIn_r _ [10] (by decide +kernel) (by decide +kernel)
set_option maxRecDepth 20000 in
theorem gL_requested_L_grant : GoodIn wsL_requested (va_wsS RL 77 yL_grant wsL_grant) := goodIn_app (goodIn_of _ (by decide +kernel)) ggL_requested_L_grant
set_option maxRecDepth 20000 in
theorem ggL_requested_L_length : GoodIn wsL_requested wsL_length := goodIn_r _ [13] (by decide +kernel) (by decide +kernel)
set_option maxRecDepth 20000 in
theorem gL_requested_L_length : GoodIn wsL_requested (va_wsS RL 52 yL_length wsL_length) := goodIn_app (goodIn_of _ (by decide +kernel)) ggL_requested_L_length
set_option maxRecDepth 20000 in
theorem ggL_requested_L_at : GoodIn wsL_requested wsL_at := goodIn_r _ [16, 17] (by decide +kernel) (by decide +kernel)
set_option maxRecDepth 20000 in
theorem gL_requested_L_at : GoodIn wsL_requested (va_wsS RL 58 yL_at wsL_at) := goodIn_app (goodIn_of _ (by decide +kernel)) ggL_requested_L_at
set_option maxRecDepth 20000 in
theorem ggL_requested_L_victim : GoodIn wsL_requested wsL_victim := goodIn_r _ [20, 21, 22, 3, 23, 1, 2, 4, 24, 25, 26, 11, 12, 13, 14, 15, 16, 17, 27, 28, 29] (by decide +kernel) (by decide +kernel)
set_option maxRecDepth 20000 in
theorem gL_requested_L_victim : GoodIn wsL_requested (va_wsS RL 89 yL_victim wsL_victim) := goodIn_app (goodIn_of _ (by decide +kernel)) ggL_requested_L_victim
set_option maxRecDepth 20000 in
theorem ggL_requested_L_remove : GoodIn wsL_requested wsL_remove := goodIn_r _ [32, 24, 25, 3, 26, 11, 12, 13, 14, 15, 16, 17] (by decide +kernel) (by decide +kernel)
set_option maxRecDepth 20000 in
theorem gL_requested_L_remove : GoodIn wsL_requested (va_wsS RL 73 yL_remove wsL_remove) := goodIn_app (goodIn_of _ (by decide +kernel)) ggL_requested_L_remove
set_option maxRecDepth 20000 in
theorem ggL_requested_L_release : GoodIn wsL_requested wsL_release := goodIn_r _ [35] (by decide +kernel) (by decide +kernel)
set_option maxRecDepth 20000 in
theorem gL_requested_L_release : GoodIn wsL_requested (va_wsS RL 92 yL_release wsL_release) := goodIn_app (goodIn_of _ (by decide +kernel)) ggL_requested_L_release
set_option maxRecDepth 20000 in
theorem ggL_requested_L_serve : GoodIn wsL_requested wsL_serve := goodIn_r _ [38, 14, 15, 3, 16, 17, 5, 6, 7, 1, 2, 4, 30, 31, 32, 24, 25, 26, 11, 12, 13, 8, 9, 10] (by decide +kernel) (by decide +kernel)
set_option maxRecDepth 20000 in
theorem gL_requested_L_serve : GoodIn wsL_requested (va_wsS RL 96 yL_serve wsL_serve) := goodIn_app (goodIn_of _ (by decide +kernel)) ggL_requested_L_serve
set_option maxRecDepth 20000 in
theorem ggL_ended_L_remove : GoodIn wsL_ended wsL_remove := goodIn_r _ [4, 5, 6, 3, 7, 8, 9, 10, 11, 12, 13, 14] (by decide +kernel) (by decide +kernel)
set_option maxRecDepth 20000 in
theorem gL_ended_L_remove : GoodIn wsL_ended (va_wsS RL 73 yL_remove wsL_remove) := goodIn_app (goodIn_of _ (by decide +kernel)) ggL_ended_L_remove
set_option maxRecDepth 20000 in
theorem ggL_ended_L_release : GoodIn wsL_ended wsL_release := goodIn_r _ [17] (by decide +kernel) (by decide +kernel)
set_option maxRecDepth 20000 in
theorem gL_ended_L_release : GoodIn wsL_ended (va_wsS RL 92 yL_release wsL_release) := goodIn_app (goodIn_of _ (by decide +kernel)) ggL_ended_L_release
set_option maxRecDepth 20000 in
theorem ggL_ended_L_serve : GoodIn wsL_ended wsL_serve := goodIn_r _ [20, 11, 12, 3, 13, 14, 21, 22, 23, 24, 25, 26, 1, 2, 4, 5, 6, 7, 8, 9, 10, 27, 28, 29] (by decide +kernel) (by decide +kernel)
set_option maxRecDepth 20000 in
theorem gL_ended_L_serve : GoodIn wsL_ended (va_wsS RL 96 yL_serve wsL_serve) := goodIn_app (goodIn_of _ (by decide +kernel)) ggL_ended_L_serve
