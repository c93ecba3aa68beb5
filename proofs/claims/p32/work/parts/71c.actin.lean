set_option maxRecDepth 20000 in
theorem lawin_wsL_act_r9 : ∀ w ∈ wsL_act_r9, w ∈ lw_tbl := fun w h => (goodIn_r (big := lw_tbl) wsL_act_r9 [425, 426, 427, 428, 429, 430, 431, 432, 433, 434, 435, 436, 437, 438, 439, 440, 441, 442, 443, 444, 445, 446, 447, 448] (by decide +kernel) (by decide +kernel) w h).1
set_option maxRecDepth 20000 in
theorem lawin_wsL_act_r10 : ∀ w ∈ wsL_act_r10, w ∈ lw_tbl := fun w h => (goodIn_r (big := lw_tbl) wsL_act_r10 [449, 450, 451, 61, 59, 55, 453, 454, 455, 456, 457, 458, 459, 145, 460, 461, 462, 463, 464, 465, 466, 467, 468, 469] (by decide +kernel) (by decide +kernel) w h).1
set_option maxRecDepth 20000 in
theorem lawin_wsL_act_r11 : ∀ w ∈ wsL_act_r11, w ∈ lw_tbl := fun w h => (goodIn_r (big := lw_tbl) wsL_act_r11 [470, 471, 472, 473, 474, 475, 476, 477, 478, 479, 480, 481, 482, 483, 484, 485, 486, 487, 488, 489, 490, 491, 492, 493] (by decide +kernel) (by decide +kernel) w h).1
set_option maxRecDepth 20000 in
theorem lawin_wsL_act_r12 : ∀ w ∈ wsL_act_r12, w ∈ lw_tbl := fun w h => (goodIn_r (big := lw_tbl) wsL_act_r12 [494, 495, 496, 497, 498, 499, 500, 501, 502, 503, 504, 505, 506, 507, 508, 509, 510] (by decide +kernel) (by decide +kernel) w h).1
