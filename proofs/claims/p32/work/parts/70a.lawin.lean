set_option maxRecDepth 20000 in
theorem lawin_wsL_law0_r1 : ∀ w ∈ wsL_law0_r1, w ∈ lw_tbl := fun w h => (goodIn_r (big := lw_tbl) wsL_law0_r1 [29, 30, 16, 90, 582, 31, 32, 33, 34, 35, 36, 37, 38, 17, 144, 145, 91, 92, 18, 146, 104, 105, 19, 147] (by decide +kernel) (by decide +kernel) w h).1
set_option maxRecDepth 20000 in
theorem lawin_wsL_law0_r2 : ∀ w ∈ wsL_law0_r2, w ∈ lw_tbl := fun w h => (goodIn_r (big := lw_tbl) wsL_law0_r2 [124, 125, 20, 148, 39, 40, 41, 42, 43, 46, 49, 52, 54, 56, 58, 60, 94, 95, 96, 97, 98, 106, 107, 108] (by decide +kernel) (by decide +kernel) w h).1
set_option maxRecDepth 20000 in
theorem lawin_wsL_law0_r3 : ∀ w ∈ wsL_law0_r3, w ∈ lw_tbl := fun w h => (goodIn_r (big := lw_tbl) wsL_law0_r3 [109, 110, 113, 112, 127, 128, 129, 130, 511, 512, 15, 513, 441, 442, 443, 444, 180, 181, 182, 183, 24, 251, 252, 253] (by decide +kernel) (by decide +kernel) w h).1
