set_option maxRecDepth 20000 in
theorem lawin_wsL_act_r5 : ∀ w ∈ wsL_act_r5, w ∈ lw_tbl := fun w h => (goodIn_r (big := lw_tbl) wsL_act_r5 [335, 336, 338, 4, 339, 340, 342, 5, 343, 344, 345, 346, 18, 347, 348, 350, 6, 351, 97, 98, 352, 353, 354, 355] (by decide +kernel) (by decide +kernel) w h).1
set_option maxRecDepth 20000 in
theorem lawin_wsL_act_r6 : ∀ w ∈ wsL_act_r6, w ∈ lw_tbl := fun w h => (goodIn_r (big := lw_tbl) wsL_act_r6 [356, 358, 7, 359, 360, 362, 8, 363, 364, 366, 9, 367, 368, 370, 10, 371, 372, 374, 11, 375, 50, 48, 45, 376] (by decide +kernel) (by decide +kernel) w h).1
set_option maxRecDepth 20000 in
theorem lawin_wsL_act_r7 : ∀ w ∈ wsL_act_r7, w ∈ lw_tbl := fun w h => (goodIn_r (big := lw_tbl) wsL_act_r7 [377, 378, 379, 380, 382, 12, 383, 384, 386, 13, 387, 388, 389, 390, 391, 392, 394, 14, 395, 396, 397, 398, 399, 400] (by decide +kernel) (by decide +kernel) w h).1
set_option maxRecDepth 20000 in
theorem lawin_wsL_act_r8 : ∀ w ∈ wsL_act_r8, w ∈ lw_tbl := fun w h => (goodIn_r (big := lw_tbl) wsL_act_r8 [401, 402, 403, 404, 405, 406, 47, 408, 409, 410, 411, 412, 413, 414, 415, 416, 417, 418, 419, 420, 421, 422, 423, 424] (by decide +kernel) (by decide +kernel) w h).1
