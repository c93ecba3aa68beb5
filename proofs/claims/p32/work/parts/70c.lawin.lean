set_option maxRecDepth 20000 in
theorem lawin_wsL_law0_r6 : ∀ w ∈ wsL_law0_r6, w ∈ lw_tbl := fun w h => (goodIn_r (big := lw_tbl) wsL_law0_r6 [482, 483, 484, 485, 486, 496, 497, 498, 535, 536, 537, 538, 539, 540, 541, 542, 543, 544, 545, 25, 546, 547, 548, 549] (by decide +kernel) (by decide +kernel) w h).1
set_option maxRecDepth 20000 in
theorem lawin_wsL_law0_r7 : ∀ w ∈ wsL_law0_r7, w ∈ lw_tbl := fun w h => (goodIn_r (big := lw_tbl) wsL_law0_r7 [550, 551, 552, 553, 57, 300, 301, 302, 448, 449, 450, 451, 61, 59, 55, 554, 555, 556, 557, 558, 559, 560, 561, 562] (by decide +kernel) (by decide +kernel) w h).1
