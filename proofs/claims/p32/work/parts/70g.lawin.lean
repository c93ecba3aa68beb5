set_option maxRecDepth 20000 in
theorem lawin_wsL_law0_r12 : ∀ w ∈ wsL_law0_r12, w ∈ lw_tbl := fun w h => (goodIn_r (big := lw_tbl) wsL_law0_r12 [339, 340, 342, 5, 343, 344, 345, 346, 347, 348, 350, 6, 351, 352, 360, 362, 8, 363, 364, 366, 9, 367, 368, 370] (by decide +kernel) (by decide +kernel) w h).1
set_option maxRecDepth 20000 in
theorem lawin_wsL_law0_r13 : ∀ w ∈ wsL_law0_r13, w ∈ lw_tbl := fun w h => (goodIn_r (big := lw_tbl) wsL_law0_r13 [10, 371, 372, 374, 11, 375, 50, 48, 45, 376, 377, 378, 379, 380, 382, 12, 383, 384, 386, 13, 387, 388, 389, 390] (by decide +kernel) (by decide +kernel) w h).1
set_option maxRecDepth 20000 in
theorem lawin_wsL_law0_r14 : ∀ w ∈ wsL_law0_r14, w ∈ lw_tbl := fun w h => (goodIn_r (big := lw_tbl) wsL_law0_r14 [391, 392, 394, 14, 395, 396, 397, 398, 399, 400, 401, 402, 403, 404, 405, 406, 408, 409, 410, 411, 412, 413, 414, 415] (by decide +kernel) (by decide +kernel) w h).1
