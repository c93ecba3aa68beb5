set_option maxRecDepth 20000 in
theorem lawin_wsL_act_r1 : ∀ w ∈ wsL_act_r1, w ∈ lw_tbl := fun w h => (goodIn_r (big := lw_tbl) wsL_act_r1 [167, 168, 15, 169, 170, 171, 172, 173, 174, 175, 176, 177, 178, 16, 179, 144, 147, 44, 180, 181, 182, 183, 24, 251] (by decide +kernel) (by decide +kernel) w h).1
set_option maxRecDepth 20000 in
theorem lawin_wsL_act_r2 : ∀ w ∈ wsL_act_r2, w ∈ lw_tbl := fun w h => (goodIn_r (big := lw_tbl) wsL_act_r2 [252, 253, 17, 254, 43, 52, 255, 256, 257, 258, 26, 274, 275, 276, 19, 277, 113, 114, 115, 278, 279, 280, 281, 282] (by decide +kernel) (by decide +kernel) w h).1
set_option maxRecDepth 20000 in
theorem lawin_wsL_act_r3 : ∀ w ∈ wsL_act_r3, w ∈ lw_tbl := fun w h => (goodIn_r (big := lw_tbl) wsL_act_r3 [284, 283, 27, 46, 49, 54, 56, 58, 60, 62, 63, 65, 285, 286, 287, 288, 289, 290, 291, 292, 293, 294, 295, 296] (by decide +kernel) (by decide +kernel) w h).1
set_option maxRecDepth 20000 in
theorem lawin_wsL_act_r4 : ∀ w ∈ wsL_act_r4, w ∈ lw_tbl := fun w h => (goodIn_r (big := lw_tbl) wsL_act_r4 [297, 298, 299, 304, 28, 300, 301, 302, 320, 322, 1, 323, 146, 324, 325, 326, 327, 328, 330, 2, 331, 332, 334, 3] (by decide +kernel) (by decide +kernel) w h).1
