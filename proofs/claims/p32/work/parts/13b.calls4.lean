set_option maxRecDepth 20000 in
theorem ggX4_init_X2_init : GoodIn wsX4_init wsX2_init := goodIn_r _ [23, 24, 2, 3, 25, 26, 27, 28, 29, 30, 31, 32, 33, 50, 51, 52, 53, 54, 55, 56, 57, 58, 59, 60] (by decide +kernel) (by decide +kernel)
set_option maxRecDepth 20000 in
theorem gX4_init_X2_init : GoodIn wsX4_init (wsX2_init) := ggX4_init_X2_init
set_option maxRecDepth 20000 in
theorem ggX4_init_X3_init : GoodIn wsX4_init wsX3_init := goodIn_r _ [35, 36, 2, 3, 25, 37, 38, 66, 67] (by decide +kernel) (by decide +kernel)
set_option maxRecDepth 20000 in
theorem gX4_init_X3_init_n21 : GoodIn wsX4_init (wsX3_init) := ggX4_init_X3_init
set_option maxRecDepth 20000 in
theorem ggX4_init_X1_init : GoodIn wsX4_init wsX1_init := goodIn_r _ [41, 42, 2, 3, 43, 44, 5, 6, 45, 22, 23, 24, 25, 26, 27, 28, 29, 30, 31, 32, 33, 68, 69, 70, 50, 51, 52, 53, 54, 55, 56, 57, 58, 59, 60] (by decide +kernel) (by decide +kernel)
set_option maxRecDepth 20000 in
theorem gX4_init_X1_init : GoodIn wsX4_init (wsX1_init) := ggX4_init_X1_init
set_option maxRecDepth 20000 in
theorem ggX4_init_X0_init : GoodIn wsX4_init wsX0_init := goodIn_r _ [47, 48, 2, 3, 25, 49, 71, 72, 73, 74, 75, 76] (by decide +kernel) (by decide +kernel)
set_option maxRecDepth 20000 in
theorem gX4_init_X0_init_n35 : GoodIn wsX4_init (wsX0_init) := ggX4_init_X0_init
set_option maxRecDepth 20000 in
theorem ggX4_begin_X4_requireTransaction : GoodIn wsX4_begin wsX4_requireTransaction := goodIn_ca (goodIn_r _ [7, 8, 9] (by decide +kernel) (by decide +kernel)) (goodIn_sub (fun _ h => List.mem_cons_of_mem _ (List.mem_append_left _ (List.mem_append_right _ h))) (by decide +kernel))
set_option maxRecDepth 20000 in
theorem gX4_begin_X4_requireTransaction : GoodIn wsX4_begin (va_wsS RX4 40 yX4_requireTransaction wsX4_requireTransaction) := goodIn_app (goodIn_of _ (by decide +kernel)) ggX4_begin_X4_requireTransaction
set_option maxRecDepth 20000 in
theorem ggX4_begin_X2_stateNow : GoodIn wsX4_begin wsX2_stateNow := goodIn_r _ [14, 15, 16, 56, 57, 58, 59, 60, 61, 62, 63, 64, 65, 66] (by decide +kernel) (by decide +kernel)
set_option maxRecDepth 20000 in
theorem gX4_begin_X2_stateNow : GoodIn wsX4_begin (wsV RX4 44 RX2 yX2_stateNow wsX2_stateNow) := goodIn_app (goodIn_of _ (by decide +kernel)) ggX4_begin_X2_stateNow
set_option maxRecDepth 20000 in
theorem ggX4_begin_X4_requireState : GoodIn wsX4_begin wsX4_requireState := goodIn_ca (goodIn_r _ [19, 20, 21] (by decide +kernel) (by decide +kernel)) (goodIn_sub (fun _ h => List.mem_cons_of_mem _ (List.mem_append_right _ h)) (by decide +kernel))
set_option maxRecDepth 20000 in
theorem gX4_begin_X4_requireState : GoodIn wsX4_begin (va_wsS RX4 48 yX4_requireState wsX4_requireState) := goodIn_app (goodIn_of _ (by decide +kernel)) ggX4_begin_X4_requireState
set_option maxRecDepth 20000 in
theorem ggX4_begin_X1_save : GoodIn wsX4_begin wsX1_save := goodIn_r _ [26, 27, 28, 29, 30, 31, 32, 13, 33, 15, 34, 35, 36, 37, 38, 39, 16, 40, 41, 42, 43, 44, 45, 46, 67, 68, 69, 56, 57, 58, 59, 60, 61, 62, 63, 64, 65, 66] (by decide +kernel) (by decide +kernel)
set_option maxRecDepth 20000 in
theorem gX4_begin_X1_save : GoodIn wsX4_begin (wsV RX4 52 RX1 yX1_save wsX1_save) := goodIn_app (goodIn_of _ (by decide +kernel)) ggX4_begin_X1_save
set_option maxRecDepth 20000 in
theorem ggX4_begin_X2_start : GoodIn wsX4_begin wsX2_start := goodIn_r _ [50, 15, 44, 38, 39, 56, 57, 58, 59, 60, 61, 62, 63, 64, 65, 66] (by decide +kernel) (by decide +kernel)
set_option maxRecDepth 20000 in
theorem gX4_begin_X2_start : GoodIn wsX4_begin (wsV RX4 56 RX2 yX2_start wsX2_start) := goodIn_app (goodIn_of _ (by decide +kernel)) ggX4_begin_X2_start
set_option maxRecDepth 20000 in
theorem ggX4_request_X4_requireRequest : GoodIn wsX4_request wsX4_requireRequest := goodIn_ca (goodIn_ca (goodIn_r _ [6, 7, 8, 9, 10, 5, 11, 12, 13, 14, 15, 16] (by decide +kernel) (by decide +kernel)) (goodIn_sub (fun _ h => List.mem_cons_of_mem _ (List.mem_append_left _ (List.mem_append_left _ (List.mem_append_right _ h)))) (by decide +kernel))) (goodIn_sub (fun _ h => List.mem_cons_of_mem _ (List.mem_append_left _ (List.mem_append_right _ h))) (by decide +kernel))
set_option maxRecDepth 20000 in
theorem gX4_request_X4_requireRequest : GoodIn wsX4_request (va_wsS RX4 63 yX4_requireRequest wsX4_requireRequest) := goodIn_app (goodIn_of _ (by decide +kernel)) ggX4_request_X4_requireRequest
set_option maxRecDepth 20000 in
theorem ggX4_request_X2_stateNow : GoodIn wsX4_request wsX2_stateNow := goodIn_r _ [21, 22, 23, 146, 147, 148, 149, 150, 151, 152, 153, 154, 155, 156] (by decide +kernel) (by decide +kernel)
set_option maxRecDepth 20000 in
theorem gX4_request_X2_stateNow : GoodIn wsX4_request (wsV RX4 44 RX2 yX2_stateNow wsX2_stateNow) := goodIn_app (goodIn_of _ (by decide +kernel)) ggX4_request_X2_stateNow
set_option maxRecDepth 20000 in
theorem ggX4_request_X4_requireState : GoodIn wsX4_request wsX4_requireState := goodIn_ca (goodIn_r _ [26, 27, 28] (by decide +kernel) (by decide +kernel)) (goodIn_sub (fun _ h => List.mem_cons_of_mem _ (List.mem_append_right _ h)) (by decide +kernel))
set_option maxRecDepth 20000 in
theorem gX4_request_X4_requireState : GoodIn wsX4_request (va_wsS RX4 48 yX4_requireState wsX4_requireState) := goodIn_app (goodIn_of _ (by decide +kernel)) ggX4_request_X4_requireState
set_option maxRecDepth 20000 in
theorem ggX4_request_X1_save : GoodIn wsX4_request wsX1_save := goodIn_r _ [33, 34, 35, 36, 37, 38, 39, 20, 40, 22, 41, 42, 43, 44, 45, 46, 23, 47, 48, 49, 50, 51, 52, 53, 157, 158, 159, 146, 147, 148, 149, 150, 151, 152, 153, 154, 155, 156] (by decide +kernel) (by decide +kernel)
set_option maxRecDepth 20000 in
theorem gX4_request_X1_save : GoodIn wsX4_request (wsV RX4 52 RX1 yX1_save wsX1_save) := goodIn_app (goodIn_of _ (by decide +kernel)) ggX4_request_X1_save
set_option maxRecDepth 20000 in
theorem ggX4_request_X4_ask : GoodIn wsX4_request wsX4_ask := goodIn_r _ [57, 58, 59, 60, 61, 20, 62, 48, 50, 47, 63, 64, 65, 66, 67, 68, 69, 70, 45, 71, 72, 73, 74, 49, 75, 76, 77, 78, 23, 79, 80, 81, 82, 83, 84, 85, 86, 87, 88, 89, 90, 91, 92, 93, 94, 95, 96, 97, 98, 99, 100, 101, 102, 103, 104, 105, 106, 107, 108, 109, 110, 111, 112, 113, 114, 115, 116, 117, 118, 119, 120, 52, 53, 46, 121, 122, 123, 124, 125, 126, 127, 128, 129, 130, 131, 132, 133, 134, 135, 136, 141, 142, 143, 144, 145, 146, 147, 148, 149, 150, 151, 152, 153, 154, 155, 156, 160, 161] (by decide +kernel) (by decide +kernel)
set_option maxRecDepth 20000 in
theorem gX4_request_X4_ask : GoodIn wsX4_request (wsV RX4 67 RX4 yX4_ask wsX4_ask) := goodIn_app (goodIn_of _ (by decide +kernel)) ggX4_request_X4_ask
set_option maxRecDepth 20000 in
theorem ggX4_request_X2_outcome : GoodIn wsX4_request wsX2_outcome := goodIn_r _ [140, 48, 23, 146, 147, 148, 149, 150, 151, 152, 153, 154, 155, 156] (by decide +kernel) (by decide +kernel)
set_option maxRecDepth 20000 in
theorem gX4_request_X2_outcome : GoodIn wsX4_request (wsV RX4 71 RX2 yX2_outcome wsX2_outcome) := goodIn_app (goodIn_of _ (by decide +kernel)) ggX4_request_X2_outcome
set_option maxRecDepth 20000 in
theorem ggX4_work_X4_requireTransaction : GoodIn wsX4_work wsX4_requireTransaction := goodIn_ca (goodIn_r _ [9, 10, 11] (by decide +kernel) (by decide +kernel)) (goodIn_sub (fun _ h => List.mem_cons_of_mem _ (List.mem_append_left _ (List.mem_append_right _ h))) (by decide +kernel))
set_option maxRecDepth 20000 in
theorem gX4_work_X4_requireTransaction : GoodIn wsX4_work (va_wsS RX4 40 yX4_requireTransaction wsX4_requireTransaction) := goodIn_app (goodIn_of _ (by decide +kernel)) ggX4_work_X4_requireTransaction
set_option maxRecDepth 20000 in
theorem ggX4_work_X2_stateNow : GoodIn wsX4_work wsX2_stateNow := goodIn_r _ [16, 17, 18, 54, 55, 56, 57, 58, 59, 60, 61, 62, 63, 64] (by decide +kernel) (by decide +kernel)
set_option maxRecDepth 20000 in
theorem gX4_work_X2_stateNow : GoodIn wsX4_work (wsV RX4 44 RX2 yX2_stateNow wsX2_stateNow) := goodIn_app (goodIn_of _ (by decide +kernel)) ggX4_work_X2_stateNow
set_option maxRecDepth 20000 in
theorem ggX4_work_X4_requireState : GoodIn wsX4_work wsX4_requireState := goodIn_ca (goodIn_r _ [21, 22, 23] (by decide +kernel) (by decide +kernel)) (goodIn_sub (fun _ h => List.mem_cons_of_mem _ (List.mem_append_right _ h)) (by decide +kernel))
set_option maxRecDepth 20000 in
theorem gX4_work_X4_requireState : GoodIn wsX4_work (va_wsS RX4 48 yX4_requireState wsX4_requireState) := goodIn_app (goodIn_of _ (by decide +kernel)) ggX4_work_X4_requireState
set_option maxRecDepth 20000 in
theorem ggX4_work_X1_save : GoodIn wsX4_work wsX1_save := goodIn_r _ [28, 29, 30, 31, 32, 33, 34, 15, 35, 17, 36, 37, 38, 39, 40, 41, 18, 42, 43, 44, 45, 46, 47, 48, 65, 66, 67, 54, 55, 56, 57, 58, 59, 60, 61, 62, 63, 64] (by decide +kernel) (by decide +kernel)
set_option maxRecDepth 20000 in
theorem gX4_work_X1_save : GoodIn wsX4_work (wsV RX4 52 RX1 yX1_save wsX1_save) := goodIn_app (goodIn_of _ (by decide +kernel)) ggX4_work_X1_save
set_option maxRecDepth 20000 in
theorem ggX4_withdraw_X4_requireTransaction : GoodIn wsX4_withdraw wsX4_requireTransaction := goodIn_ca (goodIn_r _ [6, 7, 8] (by decide +kernel) (by decide +kernel)) (goodIn_sub (fun _ h => List.mem_cons_of_mem _ (List.mem_append_left _ (List.mem_append_right _ h))) (by decide +kernel))
set_option maxRecDepth 20000 in
theorem gX4_withdraw_X4_requireTransaction : GoodIn wsX4_withdraw (va_wsS RX4 40 yX4_requireTransaction wsX4_requireTransaction) := goodIn_app (goodIn_of _ (by decide +kernel)) ggX4_withdraw_X4_requireTransaction
set_option maxRecDepth 20000 in
theorem ggX4_withdraw_X2_stateNow : GoodIn wsX4_withdraw wsX2_stateNow := goodIn_r _ [13, 14, 15, 75, 76, 77, 78, 79, 80, 81, 82, 83, 84, 85] (by decide +kernel) (by decide +kernel)
set_option maxRecDepth 20000 in
theorem gX4_withdraw_X2_stateNow : GoodIn wsX4_withdraw (wsV RX4 44 RX2 yX2_stateNow wsX2_stateNow) := goodIn_app (goodIn_of _ (by decide +kernel)) ggX4_withdraw_X2_stateNow
set_option maxRecDepth 20000 in
theorem ggX4_withdraw_X4_requireState : GoodIn wsX4_withdraw wsX4_requireState := goodIn_ca (goodIn_r _ [18, 19, 20] (by decide +kernel) (by decide +kernel)) (goodIn_sub (fun _ h => List.mem_cons_of_mem _ (List.mem_append_right _ h)) (by decide +kernel))
set_option maxRecDepth 20000 in
theorem gX4_withdraw_X4_requireState : GoodIn wsX4_withdraw (va_wsS RX4 48 yX4_requireState wsX4_requireState) := goodIn_app (goodIn_of _ (by decide +kernel)) ggX4_withdraw_X4_requireState
set_option maxRecDepth 20000 in
theorem ggX4_withdraw_X1_save : GoodIn wsX4_withdraw wsX1_save := goodIn_r _ [25, 26, 27, 28, 29, 30, 31, 12, 32, 14, 33, 34, 35, 36, 37, 38, 15, 39, 40, 41, 42, 43, 44, 45, 86, 87, 88, 75, 76, 77, 78, 79, 80, 81, 82, 83, 84, 85] (by decide +kernel) (by decide +kernel)
set_option maxRecDepth 20000 in
theorem gX4_withdraw_X1_save : GoodIn wsX4_withdraw (wsV RX4 52 RX1 yX1_save wsX1_save) := goodIn_app (goodIn_of _ (by decide +kernel)) ggX4_withdraw_X1_save
set_option maxRecDepth 20000 in
theorem ggX4_withdraw_X2_takeBack : GoodIn wsX4_withdraw wsX2_takeBack := goodIn_r _ [49, 50, 51, 52, 12, 53, 15, 42, 41, 54, 55, 56, 57, 58, 59, 60, 61, 39, 62, 63, 64, 65, 40, 66, 67, 68, 69, 37, 75, 76, 77, 78, 79, 80, 81, 82, 83, 84, 85] (by decide +kernel) (by decide +kernel)
set_option maxRecDepth 20000 in
theorem gX4_withdraw_X2_takeBack : GoodIn wsX4_withdraw (wsV RX4 85 RX2 yX2_takeBack wsX2_takeBack) := goodIn_app (goodIn_of _ (by decide +kernel)) ggX4_withdraw_X2_takeBack
set_option maxRecDepth 20000 in
theorem ggX4_commit_X4_requireTransaction : GoodIn wsX4_commit wsX4_requireTransaction := goodIn_ca (goodIn_r _ [6, 7, 8] (by decide +kernel) (by decide +kernel)) (goodIn_sub (fun _ h => List.mem_cons_of_mem _ (List.mem_append_left _ (List.mem_append_right _ h))) (by decide +kernel))
set_option maxRecDepth 20000 in
theorem gX4_commit_X4_requireTransaction : GoodIn wsX4_commit (va_wsS RX4 40 yX4_requireTransaction wsX4_requireTransaction) := goodIn_app (goodIn_of _ (by decide +kernel)) ggX4_commit_X4_requireTransaction
set_option maxRecDepth 20000 in
theorem ggX4_commit_X2_stateNow : GoodIn wsX4_commit wsX2_stateNow := goodIn_r _ [13, 14, 15, 79, 80, 81, 82, 83, 84, 85, 86, 87, 88, 89] (by decide +kernel) (by decide +kernel)
set_option maxRecDepth 20000 in
theorem gX4_commit_X2_stateNow : GoodIn wsX4_commit (wsV RX4 44 RX2 yX2_stateNow wsX2_stateNow) := goodIn_app (goodIn_of _ (by decide +kernel)) ggX4_commit_X2_stateNow
set_option maxRecDepth 20000 in
theorem ggX4_commit_X4_requireState : GoodIn wsX4_commit wsX4_requireState := goodIn_ca (goodIn_r _ [18, 19, 20] (by decide +kernel) (by decide +kernel)) (goodIn_sub (fun _ h => List.mem_cons_of_mem _ (List.mem_append_right _ h)) (by decide +kernel))
set_option maxRecDepth 20000 in
theorem gX4_commit_X4_requireState : GoodIn wsX4_commit (va_wsS RX4 48 yX4_requireState wsX4_requireState) := goodIn_app (goodIn_of _ (by decide +kernel)) ggX4_commit_X4_requireState
set_option maxRecDepth 20000 in
theorem ggX4_commit_X1_save : GoodIn wsX4_commit wsX1_save := goodIn_r _ [25, 26, 27, 28, 29, 30, 31, 12, 32, 14, 33, 34, 35, 36, 37, 38, 15, 39, 40, 41, 42, 43, 44, 45, 90, 91, 92, 79, 80, 81, 82, 83, 84, 85, 86, 87, 88, 89] (by decide +kernel) (by decide +kernel)
set_option maxRecDepth 20000 in
theorem gX4_commit_X1_save : GoodIn wsX4_commit (wsV RX4 52 RX1 yX1_save wsX1_save) := goodIn_app (goodIn_of _ (by decide +kernel)) ggX4_commit_X1_save
set_option maxRecDepth 20000 in
theorem ggX4_commit_X2_end : GoodIn wsX4_commit wsX2_end := goodIn_r _ [49, 14, 37, 38, 50, 51, 52, 12, 53, 15, 42, 41, 54, 55, 56, 57, 40, 58, 59, 60, 61, 62, 63, 64, 65, 39, 66, 67, 68, 69, 70, 71, 72, 73, 79, 80, 81, 82, 83, 84, 85, 86, 87, 88, 89] (by decide +kernel) (by decide +kernel)
set_option maxRecDepth 20000 in
theorem gX4_commit_X2_end : GoodIn wsX4_commit (wsV RX4 88 RX2 yX2_end wsX2_end) := goodIn_app (goodIn_of _ (by decide +kernel)) ggX4_commit_X2_end
set_option maxRecDepth 20000 in
theorem ggX4_rollBack_X4_requireTransaction : GoodIn wsX4_rollBack wsX4_requireTransaction := goodIn_ca (goodIn_r _ [6, 7, 8] (by decide +kernel) (by decide +kernel)) (goodIn_sub (fun _ h => List.mem_cons_of_mem _ (List.mem_append_left _ (List.mem_append_right _ h))) (by decide +kernel))
set_option maxRecDepth 20000 in
theorem gX4_rollBack_X4_requireTransaction : GoodIn wsX4_rollBack (va_wsS RX4 40 yX4_requireTransaction wsX4_requireTransaction) := goodIn_app (goodIn_of _ (by decide +kernel)) ggX4_rollBack_X4_requireTransaction
set_option maxRecDepth 20000 in
theorem ggX4_rollBack_X2_stateNow : GoodIn wsX4_rollBack wsX2_stateNow := goodIn_r _ [13, 14, 15, 79, 80, 81, 82, 83, 84, 85, 86, 87, 88, 89] (by decide +kernel) (by decide +kernel)
set_option maxRecDepth 20000 in
theorem gX4_rollBack_X2_stateNow : GoodIn wsX4_rollBack (wsV RX4 44 RX2 yX2_stateNow wsX2_stateNow) := goodIn_app (goodIn_of _ (by decide +kernel)) ggX4_rollBack_X2_stateNow
set_option maxRecDepth 20000 in
theorem ggX4_rollBack_X4_requireState : GoodIn wsX4_rollBack wsX4_requireState := goodIn_ca (goodIn_r _ [18, 19, 20] (by decide +kernel) (by decide +kernel)) (goodIn_sub (fun _ h => List.mem_cons_of_mem _ (List.mem_append_right _ h)) (by decide +kernel))
set_option maxRecDepth 20000 in
theorem gX4_rollBack_X4_requireState : GoodIn wsX4_rollBack (va_wsS RX4 48 yX4_requireState wsX4_requireState) := goodIn_app (goodIn_of _ (by decide +kernel)) ggX4_rollBack_X4_requireState
set_option maxRecDepth 20000 in
theorem ggX4_rollBack_X1_save : GoodIn wsX4_rollBack wsX1_save := goodIn_r _ [25, 26, 27, 28, 29, 30, 31, 12, 32, 14, 33, 34, 35, 36, 37, 38, 15, 39, 40, 41, 42, 43, 44, 45, 90, 91, 92, 79, 80, 81, 82, 83, 84, 85, 86, 87, 88, 89] (by decide +kernel) (by decide +kernel)
set_option maxRecDepth 20000 in
theorem gX4_rollBack_X1_save : GoodIn wsX4_rollBack (wsV RX4 52 RX1 yX1_save wsX1_save) := goodIn_app (goodIn_of _ (by decide +kernel)) ggX4_rollBack_X1_save
set_option maxRecDepth 20000 in
theorem ggX4_rollBack_X2_end : GoodIn wsX4_rollBack wsX2_end := goodIn_r _ [49, 14, 37, 38, 50, 51, 52, 12, 53, 15, 42, 41, 54, 55, 56, 57, 40, 58, 59, 60, 61, 62, 63, 64, 65, 39, 66, 67, 68, 69, 70, 71, 72, 73, 79, 80, 81, 82, 83, 84, 85, 86, 87, 88, 89] (by decide +kernel) (by decide +kernel)
set_option maxRecDepth 20000 in
theorem gX4_rollBack_X2_end : GoodIn wsX4_rollBack (wsV RX4 88 RX2 yX2_end wsX2_end) := goodIn_app (goodIn_of _ (by decide +kernel)) ggX4_rollBack_X2_end
set_option maxRecDepth 20000 in
theorem ggX4_state_X4_requireTransaction : GoodIn wsX4_state wsX4_requireTransaction := goodIn_ca (goodIn_r _ [5, 6, 7] (by decide +kernel) (by decide +kernel)) (goodIn_sub (fun _ h => List.mem_cons_of_mem _ (List.mem_append_right _ h)) (by decide +kernel))
set_option maxRecDepth 20000 in
theorem gX4_state_X4_requireTransaction : GoodIn wsX4_state (va_wsS RX4 40 yX4_requireTransaction wsX4_requireTransaction) := goodIn_app (goodIn_of _ (by decide +kernel)) ggX4_state_X4_requireTransaction
set_option maxRecDepth 20000 in
theorem ggX4_state_X2_stateNow : GoodIn wsX4_state wsX2_stateNow := goodIn_r _ [12, 13, 14, 20, 21, 22, 23, 24, 25, 26, 27, 28, 29, 30] (by decide +kernel) (by decide +kernel)
set_option maxRecDepth 20000 in
theorem gX4_state_X2_stateNow : GoodIn wsX4_state (wsV RX4 44 RX2 yX2_stateNow wsX2_stateNow) := goodIn_app (goodIn_of _ (by decide +kernel)) ggX4_state_X2_stateNow
set_option maxRecDepth 20000 in
theorem ggX4_workOf_X4_requireTransaction : GoodIn wsX4_workOf wsX4_requireTransaction := goodIn_ca (goodIn_r _ [6, 7, 8] (by decide +kernel) (by decide +kernel)) (goodIn_sub (fun _ h => List.mem_cons_of_mem _ (List.mem_append_right _ h)) (by decide +kernel))
set_option maxRecDepth 20000 in
theorem gX4_workOf_X4_requireTransaction : GoodIn wsX4_workOf (va_wsS RX4 40 yX4_requireTransaction wsX4_requireTransaction) := goodIn_app (goodIn_of _ (by decide +kernel)) ggX4_workOf_X4_requireTransaction
set_option maxRecDepth 20000 in
theorem ggX4_abortsOf_X4_requireTransaction : GoodIn wsX4_abortsOf wsX4_requireTransaction := goodIn_ca (goodIn_r _ [6, 7, 8] (by decide +kernel) (by decide +kernel)) (goodIn_sub (fun _ h => List.mem_cons_of_mem _ (List.mem_append_right _ h)) (by decide +kernel))
set_option maxRecDepth 20000 in
theorem gX4_abortsOf_X4_requireTransaction : GoodIn wsX4_abortsOf (va_wsS RX4 40 yX4_requireTransaction wsX4_requireTransaction) := goodIn_app (goodIn_of _ (by decide +kernel)) ggX4_abortsOf_X4_requireTransaction
set_option maxRecDepth 20000 in
theorem ggX4_birthOf_X4_requireTransaction : GoodIn wsX4_birthOf wsX4_requireTransaction := goodIn_ca (goodIn_r _ [6, 7, 8] (by decide +kernel) (by decide +kernel)) (goodIn_sub (fun _ h => List.mem_cons_of_mem _ (List.mem_append_right _ h)) (by decide +kernel))
set_option maxRecDepth 20000 in
theorem gX4_birthOf_X4_requireTransaction : GoodIn wsX4_birthOf (va_wsS RX4 40 yX4_requireTransaction wsX4_requireTransaction) := goodIn_app (goodIn_of _ (by decide +kernel)) ggX4_birthOf_X4_requireTransaction
set_option maxRecDepth 20000 in
theorem ggX4_held_X4_requireTransaction : GoodIn wsX4_held wsX4_requireTransaction := goodIn_ca (goodIn_r _ [6, 7, 8] (by decide +kernel) (by decide +kernel)) (goodIn_sub (fun _ h => List.mem_cons_of_mem _ (List.mem_append_right _ h)) (by decide +kernel))
set_option maxRecDepth 20000 in
theorem gX4_held_X4_requireTransaction : GoodIn wsX4_held (va_wsS RX4 40 yX4_requireTransaction wsX4_requireTransaction) := goodIn_app (goodIn_of _ (by decide +kernel)) ggX4_held_X4_requireTransaction
set_option maxRecDepth 20000 in
theorem ggX4_held_X4_requireResource : GoodIn wsX4_held wsX4_requireResource := goodIn_ca (goodIn_r _ [11, 7, 8] (by decide +kernel) (by decide +kernel)) (goodIn_sub (fun _ h => List.mem_cons_of_mem _ (List.mem_append_right _ h)) (by decide +kernel))
set_option maxRecDepth 20000 in
theorem gX4_held_X4_requireResource : GoodIn wsX4_held (va_wsS RX4 149 yX4_requireResource wsX4_requireResource) := goodIn_app (goodIn_of _ (by decide +kernel)) ggX4_held_X4_requireResource
set_option maxRecDepth 20000 in
theorem ggX4_awaited_X4_requireTransaction : GoodIn wsX4_awaited wsX4_requireTransaction := goodIn_ca (goodIn_r _ [6, 7, 8] (by decide +kernel) (by decide +kernel)) (goodIn_sub (fun _ h => List.mem_cons_of_mem _ (List.mem_append_right _ h)) (by decide +kernel))
set_option maxRecDepth 20000 in
theorem gX4_awaited_X4_requireTransaction : GoodIn wsX4_awaited (va_wsS RX4 40 yX4_requireTransaction wsX4_requireTransaction) := goodIn_app (goodIn_of _ (by decide +kernel)) ggX4_awaited_X4_requireTransaction
set_option maxRecDepth 20000 in
theorem ggX4_waitsFor_X4_requireTransaction : GoodIn wsX4_waitsFor wsX4_requireTransaction := goodIn_ca (goodIn_r _ [5, 6, 7] (by decide +kernel) (by decide +kernel)) (goodIn_sub (fun _ h => List.mem_cons_of_mem _ (List.mem_append_right _ h)) (by decide +kernel))
set_option maxRecDepth 20000 in
theorem gX4_waitsFor_X4_requireTransaction : GoodIn wsX4_waitsFor (va_wsS RX4 40 yX4_requireTransaction wsX4_requireTransaction) := goodIn_app (goodIn_of _ (by decide +kernel)) ggX4_waitsFor_X4_requireTransaction
set_option maxRecDepth 20000 in
theorem ggX4_waitsFor_X2_waitedFor : GoodIn wsX4_waitsFor wsX2_waitedFor := goodIn_r _ [12, 13, 14, 15, 16, 17, 11, 18, 19, 20, 21, 22, 23, 24, 25, 31, 32, 33, 34, 35, 36, 37, 38, 39, 40, 41] (by decide +kernel) (by decide +kernel)
set_option maxRecDepth 20000 in
theorem gX4_waitsFor_X2_waitedFor : GoodIn wsX4_waitsFor (wsV RX4 158 RX2 yX2_waitedFor wsX2_waitedFor) := goodIn_app (goodIn_of _ (by decide +kernel)) ggX4_waitsFor_X2_waitedFor
set_option maxRecDepth 20000 in
theorem ggX4_blockers_X4_requireTransaction : GoodIn wsX4_blockers wsX4_requireTransaction := goodIn_ca (goodIn_r _ [5, 6, 7] (by decide +kernel) (by decide +kernel)) (goodIn_sub (fun _ h => List.mem_cons_of_mem _ (List.mem_append_right _ h)) (by decide +kernel))
set_option maxRecDepth 20000 in
theorem gX4_blockers_X4_requireTransaction : GoodIn wsX4_blockers (va_wsS RX4 40 yX4_requireTransaction wsX4_requireTransaction) := goodIn_app (goodIn_of _ (by decide +kernel)) ggX4_blockers_X4_requireTransaction
set_option maxRecDepth 20000 in
theorem ggX4_blockers_X2_allWaitedFor : GoodIn wsX4_blockers wsX2_allWaitedFor := goodIn_r _ [12, 13, 14, 15, 11, 16, 17, 18, 19, 20, 21, 22, 23, 24, 25, 26, 27, 28, 29, 42, 43, 44, 45, 46, 47, 48, 49, 50, 51, 52] (by decide +kernel) (by decide +kernel)
set_option maxRecDepth 20000 in
theorem gX4_blockers_X2_allWaitedFor : GoodIn wsX4_blockers (wsV RX4 161 RX2 yX2_allWaitedFor wsX2_allWaitedFor) := goodIn_app (goodIn_of _ (by decide +kernel)) ggX4_blockers_X2_allWaitedFor
set_option maxRecDepth 20000 in
theorem ggX4_blockers_J6_bitCount_0f7a4 : GoodIn wsX4_blockers wsJ6_bitCount_0f7a4 := goodIn_r _ [33, 34, 35, 36] (by decide +kernel) (by decide +kernel)
set_option maxRecDepth 20000 in
theorem gX4_blockers_J6_bitCount_0f7a4 : GoodIn wsX4_blockers (va_wsS RX4 164 yJ6_bitCount_0f7a4 wsJ6_bitCount_0f7a4) := goodIn_app (goodIn_of _ (by decide +kernel)) ggX4_blockers_J6_bitCount_0f7a4
set_option maxRecDepth 20000 in
theorem ggX4_holders_X4_requireResource : GoodIn wsX4_holders wsX4_requireResource := goodIn_ca (goodIn_r _ [5, 6, 7] (by decide +kernel) (by decide +kernel)) (goodIn_sub (fun _ h => List.mem_cons_of_mem _ (List.mem_append_right _ h)) (by decide +kernel))
set_option maxRecDepth 20000 in
theorem gX4_holders_X4_requireResource : GoodIn wsX4_holders (va_wsS RX4 149 yX4_requireResource wsX4_requireResource) := goodIn_app (goodIn_of _ (by decide +kernel)) ggX4_holders_X4_requireResource
set_option maxRecDepth 20000 in
theorem ggX4_holders_X2_holderSet : GoodIn wsX4_holders wsX2_holderSet := goodIn_r _ [12, 13, 19, 20, 21, 22, 23, 24, 25, 26, 27, 28, 29] (by decide +kernel) (by decide +kernel)
set_option maxRecDepth 20000 in
theorem gX4_holders_X2_holderSet : GoodIn wsX4_holders (wsV RX4 169 RX2 yX2_holderSet wsX2_holderSet) := goodIn_app (goodIn_of _ (by decide +kernel)) ggX4_holders_X2_holderSet
set_option maxRecDepth 20000 in
theorem ggX4_queueLength_X4_requireResource : GoodIn wsX4_queueLength wsX4_requireResource := goodIn_ca (goodIn_r _ [6, 7, 8] (by decide +kernel) (by decide +kernel)) (goodIn_sub (fun _ h => List.mem_cons_of_mem _ (List.mem_append_right _ h)) (by decide +kernel))
set_option maxRecDepth 20000 in
theorem gX4_queueLength_X4_requireResource : GoodIn wsX4_queueLength (va_wsS RX4 149 yX4_requireResource wsX4_requireResource) := goodIn_app (goodIn_of _ (by decide +kernel)) ggX4_queueLength_X4_requireResource
set_option maxRecDepth 20000 in
theorem ggX4_queued_X4_requireResource : GoodIn wsX4_queued wsX4_requireResource := goodIn_ca (goodIn_r _ [10, 1, 2] (by decide +kernel) (by decide +kernel)) (goodIn_sub (fun _ h => List.mem_cons_of_mem _ (List.mem_append_right _ h)) (by decide +kernel))
set_option maxRecDepth 20000 in
theorem gX4_queued_X4_requireResource : GoodIn wsX4_queued (va_wsS RX4 149 yX4_requireResource wsX4_requireResource) := goodIn_app (goodIn_of _ (by decide +kernel)) ggX4_queued_X4_requireResource
set_option maxRecDepth 20000 in
theorem ggX4_ifRequested_X4_requireRequest : GoodIn wsX4_ifRequested wsX4_requireRequest := goodIn_ca (goodIn_ca (goodIn_r _ [6, 7, 8, 9, 10, 5, 11, 12, 13, 14, 15, 16] (by decide +kernel) (by decide +kernel)) (goodIn_sub (fun _ h => List.mem_cons_of_mem _ (List.mem_append_left _ (List.mem_append_right _ h))) (by decide +kernel))) (goodIn_sub (fun _ h => List.mem_cons_of_mem _ (List.mem_append_right _ h)) (by decide +kernel))
set_option maxRecDepth 20000 in
theorem gX4_ifRequested_X4_requireRequest : GoodIn wsX4_ifRequested (va_wsS RX4 63 yX4_requireRequest wsX4_requireRequest) := goodIn_app (goodIn_of _ (by decide +kernel)) ggX4_ifRequested_X4_requireRequest
set_option maxRecDepth 20000 in
theorem ggX4_ifRequested_X2_stateNow : GoodIn wsX4_ifRequested wsX2_stateNow := goodIn_r _ [21, 22, 23, 133, 134, 135, 136, 137, 138, 139, 140, 141, 142, 143] (by decide +kernel) (by decide +kernel)
set_option maxRecDepth 20000 in
theorem gX4_ifRequested_X2_stateNow : GoodIn wsX4_ifRequested (wsV RX4 44 RX2 yX2_stateNow wsX2_stateNow) := goodIn_app (goodIn_of _ (by decide +kernel)) ggX4_ifRequested_X2_stateNow
set_option maxRecDepth 20000 in
theorem ggX4_ifRequested_X2_copyFrom : GoodIn wsX4_ifRequested wsX2_copyFrom := goodIn_r _ [27, 22, 28, 29, 30, 31, 32, 33, 23, 34, 35, 36, 37, 38, 39, 40, 133, 134, 135, 136, 137, 138, 139, 140, 141, 142, 143] (by decide +kernel) (by decide +kernel)
set_option maxRecDepth 20000 in
theorem gX4_ifRequested_X2_copyFrom : GoodIn wsX4_ifRequested (wsV RX4 186 RX2 yX2_copyFrom wsX2_copyFrom) := goodIn_app (goodIn_of _ (by decide +kernel)) ggX4_ifRequested_X2_copyFrom
set_option maxRecDepth 20000 in
theorem ggX4_ifRequested_X4_ask : GoodIn wsX4_ifRequested wsX4_ask := goodIn_r _ [44, 45, 46, 47, 48, 20, 49, 35, 37, 34, 50, 51, 52, 53, 54, 55, 56, 57, 32, 58, 59, 60, 61, 36, 62, 63, 64, 65, 23, 66, 67, 68, 69, 70, 71, 72, 73, 74, 75, 76, 77, 78, 79, 80, 81, 82, 83, 84, 85, 86, 87, 88, 89, 90, 91, 92, 93, 94, 95, 96, 97, 98, 99, 100, 101, 102, 103, 104, 105, 106, 107, 39, 40, 33, 108, 109, 110, 111, 112, 113, 114, 115, 116, 117, 118, 119, 120, 121, 122, 123, 128, 129, 130, 131, 132, 133, 134, 135, 136, 137, 138, 139, 140, 141, 142, 143, 144, 145] (by decide +kernel) (by decide +kernel)
set_option maxRecDepth 20000 in
theorem gX4_ifRequested_X4_ask : GoodIn wsX4_ifRequested (wsV RX4 67 RX4 yX4_ask wsX4_ask) := goodIn_app (goodIn_of _ (by decide +kernel)) ggX4_ifRequested_X4_ask
set_option maxRecDepth 20000 in
theorem ggX4_ifRequested_X2_outcome : GoodIn wsX4_ifRequested wsX2_outcome := goodIn_r _ [127, 35, 23, 133, 134, 135, 136, 137, 138, 139, 140, 141, 142, 143] (by decide +kernel) (by decide +kernel)
set_option maxRecDepth 20000 in
theorem gX4_ifRequested_X2_outcome : GoodIn wsX4_ifRequested (wsV RX4 71 RX2 yX2_outcome wsX2_outcome) := goodIn_app (goodIn_of _ (by decide +kernel)) ggX4_ifRequested_X2_outcome
set_option maxRecDepth 20000 in
theorem ggX4_victimsOf_X4_requireRequest : GoodIn wsX4_victimsOf wsX4_requireRequest := goodIn_ca (goodIn_ca (goodIn_r _ [6, 7, 8, 9, 10, 5, 11, 12, 13, 14, 15, 16] (by decide +kernel) (by decide +kernel)) (goodIn_sub (fun _ h => List.mem_cons_of_mem _ (List.mem_append_left _ (List.mem_append_right _ h))) (by decide +kernel))) (goodIn_sub (fun _ h => List.mem_cons_of_mem _ (List.mem_append_right _ h)) (by decide +kernel))
set_option maxRecDepth 20000 in
theorem gX4_victimsOf_X4_requireRequest : GoodIn wsX4_victimsOf (va_wsS RX4 63 yX4_requireRequest wsX4_requireRequest) := goodIn_app (goodIn_of _ (by decide +kernel)) ggX4_victimsOf_X4_requireRequest
set_option maxRecDepth 20000 in
theorem ggX4_victimsOf_X2_stateNow : GoodIn wsX4_victimsOf wsX2_stateNow := goodIn_r _ [21, 22, 23, 129, 130, 131, 132, 133, 134, 135, 136, 137, 138, 139] (by decide +kernel) (by decide +kernel)
set_option maxRecDepth 20000 in
theorem gX4_victimsOf_X2_stateNow : GoodIn wsX4_victimsOf (wsV RX4 44 RX2 yX2_stateNow wsX2_stateNow) := goodIn_app (goodIn_of _ (by decide +kernel)) ggX4_victimsOf_X2_stateNow
set_option maxRecDepth 20000 in
theorem ggX4_victimsOf_X2_copyFrom : GoodIn wsX4_victimsOf wsX2_copyFrom := goodIn_r _ [27, 22, 28, 29, 30, 31, 32, 33, 23, 34, 35, 36, 37, 38, 39, 40, 129, 130, 131, 132, 133, 134, 135, 136, 137, 138, 139] (by decide +kernel) (by decide +kernel)
set_option maxRecDepth 20000 in
theorem gX4_victimsOf_X2_copyFrom : GoodIn wsX4_victimsOf (wsV RX4 186 RX2 yX2_copyFrom wsX2_copyFrom) := goodIn_app (goodIn_of _ (by decide +kernel)) ggX4_victimsOf_X2_copyFrom
set_option maxRecDepth 20000 in
theorem ggX4_victimsOf_X4_ask : GoodIn wsX4_victimsOf wsX4_ask := goodIn_r _ [44, 45, 46, 47, 48, 20, 49, 35, 37, 34, 50, 51, 52, 53, 54, 55, 56, 57, 32, 58, 59, 60, 61, 36, 62, 63, 64, 65, 23, 66, 67, 68, 69, 70, 71, 72, 73, 74, 75, 76, 77, 78, 79, 80, 81, 82, 83, 84, 85, 86, 87, 88, 89, 90, 91, 92, 93, 94, 95, 96, 97, 98, 99, 100, 101, 102, 103, 104, 105, 106, 107, 39, 40, 33, 108, 109, 110, 111, 112, 113, 114, 115, 116, 117, 118, 119, 120, 121, 122, 123, 124, 125, 126, 127, 128, 129, 130, 131, 132, 133, 134, 135, 136, 137, 138, 139, 140, 141] (by decide +kernel) (by decide +kernel)
set_option maxRecDepth 20000 in
theorem gX4_victimsOf_X4_ask : GoodIn wsX4_victimsOf (wsV RX4 67 RX4 yX4_ask wsX4_ask) := goodIn_app (goodIn_of _ (by decide +kernel)) ggX4_victimsOf_X4_ask
set_option maxRecDepth 20000 in
theorem ggX4_locksHeld_X2_holderSet : GoodIn wsX4_locksHeld wsX2_holderSet := goodIn_r _ [6, 7, 20, 21, 22, 23, 24, 25, 26, 27, 28, 29, 30] (by decide +kernel) (by decide +kernel)
set_option maxRecDepth 20000 in
theorem gX4_locksHeld_X2_holderSet : GoodIn wsX4_locksHeld (wsV RX4 169 RX2 yX2_holderSet wsX2_holderSet) := goodIn_app (goodIn_of _ (by decide +kernel)) ggX4_locksHeld_X2_holderSet
set_option maxRecDepth 20000 in
theorem ggX4_locksHeld_J6_bitCount_0f7a4 : GoodIn wsX4_locksHeld wsJ6_bitCount_0f7a4 := goodIn_r _ [11, 12, 13, 14] (by decide +kernel) (by decide +kernel)
set_option maxRecDepth 20000 in
theorem gX4_locksHeld_J6_bitCount_0f7a4 : GoodIn wsX4_locksHeld (va_wsS RX4 164 yJ6_bitCount_0f7a4 wsJ6_bitCount_0f7a4) := goodIn_app (goodIn_of _ (by decide +kernel)) ggX4_locksHeld_J6_bitCount_0f7a4
set_option maxRecDepth 20000 in
theorem ggX4_requireRequest_X4_requireTransaction : GoodIn wsX4_requireRequest wsX4_requireTransaction := goodIn_ca (goodIn_r _ [6, 7, 8] (by decide +kernel) (by decide +kernel)) (goodIn_sub (fun _ h => List.mem_cons_of_mem _ (List.mem_append_right _ h)) (by decide +kernel))
set_option maxRecDepth 20000 in
theorem gX4_requireRequest_X4_requireTransaction : GoodIn wsX4_requireRequest (va_wsS RX4 40 yX4_requireTransaction wsX4_requireTransaction) := goodIn_app (goodIn_of _ (by decide +kernel)) ggX4_requireRequest_X4_requireTransaction
set_option maxRecDepth 20000 in
theorem ggX4_requireRequest_X4_requireResource : GoodIn wsX4_requireRequest wsX4_requireResource := goodIn_ca (goodIn_r _ [11, 7, 8] (by decide +kernel) (by decide +kernel)) (goodIn_sub (fun _ h => List.mem_cons_of_mem _ (List.mem_append_right _ h)) (by decide +kernel))
set_option maxRecDepth 20000 in
theorem gX4_requireRequest_X4_requireResource : GoodIn wsX4_requireRequest (va_wsS RX4 149 yX4_requireResource wsX4_requireResource) := goodIn_app (goodIn_of _ (by decide +kernel)) ggX4_requireRequest_X4_requireResource
set_option maxRecDepth 20000 in
theorem ggX4_ask_X2_place : GoodIn wsX4_ask wsX2_place := goodIn_r _ [6, 7, 8, 9, 10, 11, 12, 5, 13, 14, 15, 16, 17, 18, 19, 20, 21, 22, 23, 24, 25, 26, 27, 28, 95, 96, 97, 98, 99, 100, 101, 102, 103, 104, 105] (by decide +kernel) (by decide +kernel)
set_option maxRecDepth 20000 in
theorem gX4_ask_X2_place : GoodIn wsX4_ask (wsV RX4 203 RX2 yX2_place wsX2_place) := goodIn_app (goodIn_of _ (by decide +kernel)) ggX4_ask_X2_place
set_option maxRecDepth 20000 in
theorem ggX4_ask_X3_breakRings : GoodIn wsX4_ask wsX3_breakRings := goodIn_r _ [33, 34, 35, 36, 32, 37, 38, 39, 40, 41, 42, 5, 43, 28, 9, 10, 11, 12, 13, 7, 44, 45, 46, 47, 8, 23, 48, 49, 50, 51, 52, 53, 54, 55, 56, 57, 58, 59, 60, 61, 62, 63, 64, 65, 66, 67, 68, 69, 70, 71, 72, 18, 73, 74, 75, 76, 77, 78, 79, 80, 81, 82, 83, 84, 85, 86, 87, 88, 89, 14, 15, 16, 17, 106, 107, 95, 96, 97, 98, 99, 100, 101, 102, 103, 104, 105] (by decide +kernel) (by decide +kernel)
set_option maxRecDepth 20000 in
theorem gX4_ask_X3_breakRings : GoodIn wsX4_ask (wsV RX4 207 RX3 yX3_breakRings wsX3_breakRings) := goodIn_app (goodIn_of _ (by decide +kernel)) ggX4_ask_X3_breakRings
