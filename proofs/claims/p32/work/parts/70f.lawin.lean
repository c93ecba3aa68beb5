set_option maxRecDepth 20000 in
theorem lawin_wsL_law0_r10 : ∀ w ∈ wsL_law0_r10, w ∈ lw_tbl := fun w h => (goodIn_r (big := lw_tbl) wsL_law0_r10 [275, 276, 277, 114, 115, 278, 279, 280, 281, 282, 284, 283, 27, 62, 63, 65, 285, 286, 287, 288, 289, 290, 291, 292] (by decide +kernel) (by decide +kernel) w h).1
set_option maxRecDepth 20000 in
theorem lawin_wsL_law0_r11 : ∀ w ∈ wsL_law0_r11, w ∈ lw_tbl := fun w h => (goodIn_r (big := lw_tbl) wsL_law0_r11 [293, 294, 295, 296, 297, 298, 299, 304, 28, 320, 322, 1, 323, 324, 325, 326, 327, 332, 334, 3, 335, 336, 338, 4] (by decide +kernel) (by decide +kernel) w h).1
