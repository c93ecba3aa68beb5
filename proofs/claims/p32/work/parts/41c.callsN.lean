set_option maxRecDepth 20000 in
theorem ggL_isSo_X4_state : GoodIn wsL_isSo wsX4_state := goodIn_ca (goodIn_r _ [5, 6, 7, 8, 4, 9, 10, 11, 12, 13, 14, 15, 16, 17, 18, 142, 143, 144, 145, 146, 147, 148, 149, 150, 151, 152, 153, 154, 155, 156, 157] (by decide +kernel) (by decide +kernel)) (goodIn_sub (fun _ h => List.mem_cons_of_mem _ (List.mem_append_right _ h)) (by decide +kernel))
set_option maxRecDepth 20000 in
theorem gL_isSo_X4_state : GoodIn wsL_isSo (wsV RL 47 RX4 yX4_state wsX4_state) := goodIn_app (goodIn_of _ (by decide +kernel)) ggL_isSo_X4_state
set_option maxRecDepth 20000 in
theorem ggL_isSo_X4_workOf : GoodIn wsL_isSo wsX4_workOf := goodIn_ca (goodIn_r _ [22, 6, 23, 7, 8, 4, 9, 10, 11, 142, 143, 144, 145, 146, 147, 148, 149, 150, 151, 152, 153, 154, 155, 156, 157] (by decide +kernel) (by decide +kernel)) (goodIn_sub (fun _ h => List.mem_cons_of_mem _ (List.mem_append_right _ h)) (by decide +kernel))
set_option maxRecDepth 20000 in
theorem gL_isSo_X4_workOf : GoodIn wsL_isSo (wsV RL 133 RX4 yX4_workOf wsX4_workOf) := goodIn_app (goodIn_of _ (by decide +kernel)) ggL_isSo_X4_workOf
set_option maxRecDepth 20000 in
theorem ggL_isSo_X4_abortsOf : GoodIn wsL_isSo wsX4_abortsOf := goodIn_ca (goodIn_r _ [27, 6, 28, 7, 8, 4, 9, 10, 11, 142, 143, 144, 145, 146, 147, 148, 149, 150, 151, 152, 153, 154, 155, 156, 157] (by decide +kernel) (by decide +kernel)) (goodIn_sub (fun _ h => List.mem_cons_of_mem _ (List.mem_append_right _ h)) (by decide +kernel))
set_option maxRecDepth 20000 in
theorem gL_isSo_X4_abortsOf : GoodIn wsL_isSo (wsV RL 136 RX4 yX4_abortsOf wsX4_abortsOf) := goodIn_app (goodIn_of _ (by decide +kernel)) ggL_isSo_X4_abortsOf
set_option maxRecDepth 20000 in
theorem ggL_isSo_X4_birthOf : GoodIn wsL_isSo wsX4_birthOf := goodIn_ca (goodIn_r _ [32, 6, 33, 7, 8, 4, 9, 10, 11, 142, 143, 144, 145, 146, 147, 148, 149, 150, 151, 152, 153, 154, 155, 156, 157] (by decide +kernel) (by decide +kernel)) (goodIn_sub (fun _ h => List.mem_cons_of_mem _ (List.mem_append_right _ h)) (by decide +kernel))
set_option maxRecDepth 20000 in
theorem gL_isSo_X4_birthOf : GoodIn wsL_isSo (wsV RL 139 RX4 yX4_birthOf wsX4_birthOf) := goodIn_app (goodIn_of _ (by decide +kernel)) ggL_isSo_X4_birthOf
set_option maxRecDepth 20000 in
theorem ggL_isSo_X4_awaited : GoodIn wsL_isSo wsX4_awaited := goodIn_ca (goodIn_r _ [37, 6, 38, 7, 8, 4, 9, 10, 11, 142, 143, 144, 145, 146, 147, 148, 149, 150, 151, 152, 153, 154, 155, 156, 157] (by decide +kernel) (by decide +kernel)) (goodIn_sub (fun _ h => List.mem_cons_of_mem _ (List.mem_append_right _ h)) (by decide +kernel))
set_option maxRecDepth 20000 in
theorem gL_isSo_X4_awaited : GoodIn wsL_isSo (wsV RL 142 RX4 yX4_awaited wsX4_awaited) := goodIn_app (goodIn_of _ (by decide +kernel)) ggL_isSo_X4_awaited
set_option maxRecDepth 20000 in
theorem ggL_isSo_X4_waitsFor : GoodIn wsL_isSo wsX4_waitsFor := goodIn_ca (goodIn_r _ [42, 6, 7, 8, 4, 9, 10, 11, 43, 44, 45, 15, 46, 18, 47, 48, 49, 50, 51, 52, 53, 54, 55, 56, 57, 58, 142, 143, 144, 145, 146, 147, 148, 149, 150, 151, 152, 153, 154, 155, 156, 157] (by decide +kernel) (by decide +kernel)) (goodIn_sub (fun _ h => List.mem_cons_of_mem _ (List.mem_append_right _ h)) (by decide +kernel))
set_option maxRecDepth 20000 in
theorem gL_isSo_X4_waitsFor : GoodIn wsL_isSo (wsV RL 145 RX4 yX4_waitsFor wsX4_waitsFor) := goodIn_app (goodIn_of _ (by decide +kernel)) ggL_isSo_X4_waitsFor
set_option maxRecDepth 20000 in
theorem ggL_isSo_L_waitsFor : GoodIn wsL_isSo wsL_waitsFor := goodIn_r _ [62, 63, 64, 61, 65, 66, 67, 68, 69, 70, 71, 72, 73, 74, 75] (by decide +kernel) (by decide +kernel)
set_option maxRecDepth 20000 in
theorem gL_isSo_L_waitsFor : GoodIn wsL_isSo (va_wsS RL 81 yL_waitsFor wsL_waitsFor) := goodIn_app (goodIn_of _ (by decide +kernel)) ggL_isSo_L_waitsFor
set_option maxRecDepth 20000 in
theorem ggL_isSo_L_far : GoodIn wsL_isSo wsL_far := goodIn_r _ [78, 59, 60, 61, 62, 63, 64, 65, 66, 67, 68, 69, 70, 71, 72, 73, 74, 75] (by decide +kernel) (by decide +kernel)
set_option maxRecDepth 20000 in
theorem gL_isSo_L_far : GoodIn wsL_isSo (va_wsS RL 85 yL_far wsL_far) := goodIn_app (goodIn_of _ (by decide +kernel)) ggL_isSo_L_far
set_option maxRecDepth 20000 in
theorem ggL_isSo_X4_blockers : GoodIn wsL_isSo wsX4_blockers := goodIn_ca (goodIn_r _ [82, 6, 7, 8, 4, 9, 10, 11, 83, 84, 85, 15, 86, 87, 44, 45, 46, 18, 47, 48, 49, 50, 51, 52, 53, 54, 55, 56, 57, 58, 88, 89, 90, 91, 92, 93, 94, 142, 143, 144, 145, 146, 147, 148, 149, 150, 151, 152, 153, 154, 155, 156, 157] (by decide +kernel) (by decide +kernel)) (goodIn_sub (fun _ h => List.mem_cons_of_mem _ (List.mem_append_right _ h)) (by decide +kernel))
set_option maxRecDepth 20000 in
theorem gL_isSo_X4_blockers : GoodIn wsL_isSo (wsV RL 147 RX4 yX4_blockers wsX4_blockers) := goodIn_app (goodIn_of _ (by decide +kernel)) ggL_isSo_X4_blockers
set_option maxRecDepth 20000 in
theorem ggL_isSo_X4_held : GoodIn wsL_isSo wsX4_held := goodIn_ca (goodIn_r _ [98, 6, 99, 7, 8, 4, 9, 10, 11, 100, 101, 102, 142, 143, 144, 145, 146, 147, 148, 149, 150, 151, 152, 153, 154, 155, 156, 157] (by decide +kernel) (by decide +kernel)) (goodIn_sub (fun _ h => List.mem_cons_of_mem _ (List.mem_append_right _ h)) (by decide +kernel))
set_option maxRecDepth 20000 in
theorem gL_isSo_X4_held : GoodIn wsL_isSo (wsV RL 150 RX4 yX4_held wsX4_held) := goodIn_app (goodIn_of _ (by decide +kernel)) ggL_isSo_X4_held
set_option maxRecDepth 20000 in
theorem ggL_isSo_L_lock : GoodIn wsL_isSo wsL_lock := goodIn_r _ [65] (by decide +kernel) (by decide +kernel)
set_option maxRecDepth 20000 in
theorem gL_isSo_L_lock : GoodIn wsL_isSo (va_wsS RL 62 yL_lock wsL_lock) := goodIn_app (goodIn_of _ (by decide +kernel)) ggL_isSo_L_lock
set_option maxRecDepth 20000 in
theorem ggL_isSo_L_length : GoodIn wsL_isSo wsL_length := goodIn_r _ [71] (by decide +kernel) (by decide +kernel)
set_option maxRecDepth 20000 in
theorem gL_isSo_L_length : GoodIn wsL_isSo (va_wsS RL 52 yL_length wsL_length) := goodIn_app (goodIn_of _ (by decide +kernel)) ggL_isSo_L_length
set_option maxRecDepth 20000 in
theorem ggL_isSo_X4_queued : GoodIn wsL_isSo wsX4_queued := goodIn_ca (goodIn_r _ [106, 10, 11, 6, 107, 108, 109, 100, 101, 4, 102, 142, 143, 144, 145, 146, 147, 148, 149, 150, 151, 152, 153, 154, 155, 156, 157] (by decide +kernel) (by decide +kernel)) (goodIn_sub (fun _ h => List.mem_cons_of_mem _ (List.mem_append_right _ h)) (by decide +kernel))
set_option maxRecDepth 20000 in
theorem gL_isSo_X4_queued : GoodIn wsL_isSo (wsV RL 44 RX4 yX4_queued wsX4_queued) := goodIn_app (goodIn_of _ (by decide +kernel)) ggL_isSo_X4_queued
set_option maxRecDepth 20000 in
theorem ggL_isSo_L_at : GoodIn wsL_isSo wsL_at := goodIn_r _ [74, 75] (by decide +kernel) (by decide +kernel)
set_option maxRecDepth 20000 in
theorem gL_isSo_L_at : GoodIn wsL_isSo (va_wsS RL 58 yL_at wsL_at) := goodIn_app (goodIn_of _ (by decide +kernel)) ggL_isSo_L_at
set_option maxRecDepth 20000 in
theorem ggL_isSo_X4_holders : GoodIn wsL_isSo wsX4_holders := goodIn_ca (goodIn_r _ [113, 6, 100, 101, 4, 102, 10, 11, 114, 115, 116, 15, 117, 52, 142, 143, 144, 145, 146, 147, 148, 149, 150, 151, 152, 153, 154, 155, 156, 157] (by decide +kernel) (by decide +kernel)) (goodIn_sub (fun _ h => List.mem_cons_of_mem _ (List.mem_append_right _ h)) (by decide +kernel))
set_option maxRecDepth 20000 in
theorem gL_isSo_X4_holders : GoodIn wsL_isSo (wsV RL 153 RX4 yX4_holders wsX4_holders) := goodIn_app (goodIn_of _ (by decide +kernel)) ggL_isSo_X4_holders
set_option maxRecDepth 20000 in
theorem ggL_isSo_X4_queueLength : GoodIn wsL_isSo wsX4_queueLength := goodIn_ca (goodIn_r _ [121, 6, 107, 100, 101, 4, 102, 10, 11, 142, 143, 144, 145, 146, 147, 148, 149, 150, 151, 152, 153, 154, 155, 156, 157] (by decide +kernel) (by decide +kernel)) (goodIn_sub (fun _ h => List.mem_cons_of_mem _ (List.mem_append_right _ h)) (by decide +kernel))
set_option maxRecDepth 20000 in
theorem gL_isSo_X4_queueLength : GoodIn wsL_isSo (wsV RL 156 RX4 yX4_queueLength wsX4_queueLength) := goodIn_app (goodIn_of _ (by decide +kernel)) ggL_isSo_X4_queueLength
set_option maxRecDepth 20000 in
theorem ggL_isSo_X4_locksHeld : GoodIn wsL_isSo wsX4_locksHeld := goodIn_r _ [125, 6, 114, 115, 116, 15, 117, 52, 88, 89, 90, 91, 92, 93, 94, 142, 143, 144, 145, 146, 147, 148, 149, 150, 151, 152, 153, 154, 155, 156, 157] (by decide +kernel) (by decide +kernel)
set_option maxRecDepth 20000 in
theorem gL_isSo_X4_locksHeld : GoodIn wsL_isSo (wsV RL 159 RX4 yX4_locksHeld wsX4_locksHeld) := goodIn_app (goodIn_of _ (by decide +kernel)) ggL_isSo_X4_locksHeld
set_option maxRecDepth 20000 in
theorem ggL_isSo_X4_brokenRings : GoodIn wsL_isSo wsX4_brokenRings := goodIn_r _ [129, 6, 130, 142, 143, 144, 145, 146, 147, 148, 149, 150, 151, 152, 153, 154, 155, 156, 157] (by decide +kernel) (by decide +kernel)
set_option maxRecDepth 20000 in
theorem gL_isSo_X4_brokenRings : GoodIn wsL_isSo (wsV RL 163 RX4 yX4_brokenRings wsX4_brokenRings) := goodIn_app (goodIn_of _ (by decide +kernel)) ggL_isSo_X4_brokenRings
set_option maxRecDepth 20000 in
theorem ggL_isSo_X4_lostWork : GoodIn wsL_isSo wsX4_lostWork := goodIn_r _ [134, 6, 135, 142, 143, 144, 145, 146, 147, 148, 149, 150, 151, 152, 153, 154, 155, 156, 157] (by decide +kernel) (by decide +kernel)
set_option maxRecDepth 20000 in
theorem gL_isSo_X4_lostWork : GoodIn wsL_isSo (wsV RL 166 RX4 yX4_lostWork wsX4_lostWork) := goodIn_app (goodIn_of _ (by decide +kernel)) ggL_isSo_X4_lostWork
set_option maxRecDepth 20000 in
theorem ggL_isSo_X4_savedStates : GoodIn wsL_isSo wsX4_savedStates := goodIn_r _ [139, 140, 141, 142, 143, 144, 145, 146, 158, 159, 160] (by decide +kernel) (by decide +kernel)
set_option maxRecDepth 20000 in
theorem gL_isSo_X4_savedStates : GoodIn wsL_isSo (wsV RL 169 RX4 yX4_savedStates wsX4_savedStates) := goodIn_app (goodIn_of _ (by decide +kernel)) ggL_isSo_X4_savedStates
