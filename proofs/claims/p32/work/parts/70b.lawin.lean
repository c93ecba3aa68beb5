set_option maxRecDepth 20000 in
theorem lawin_wsL_law0_r4 : ∀ w ∈ wsL_law0_r4, w ∈ lw_tbl := fun w h => (goodIn_r (big := lw_tbl) wsL_law0_r4 [254, 514, 515, 516, 517, 47, 518, 519, 520, 521, 51, 522, 523, 524, 525, 44, 526, 527, 528, 529, 53, 530, 531, 532] (by decide +kernel) (by decide +kernel) w h).1
set_option maxRecDepth 20000 in
theorem lawin_wsL_law0_r5 : ∀ w ∈ wsL_law0_r5, w ∈ lw_tbl := fun w h => (goodIn_r (big := lw_tbl) wsL_law0_r5 [533, 534, 353, 354, 355, 328, 330, 2, 331, 356, 358, 7, 359, 490, 491, 492, 471, 472, 473, 493, 494, 495, 480, 481] (by decide +kernel) (by decide +kernel) w h).1
