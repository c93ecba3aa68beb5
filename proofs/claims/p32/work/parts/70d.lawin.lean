set_option maxRecDepth 20000 in
theorem lawin_wsL_law0_r8 : ∀ w ∈ wsL_law0_r8, w ∈ lw_tbl := fun w h => (goodIn_r (big := lw_tbl) wsL_law0_r8 [563, 564, 565, 566, 567, 568, 569, 570, 571, 572, 573, 64, 574, 575, 576, 577, 66, 578, 579, 580, 581, 116, 160, 161] (by decide +kernel) (by decide +kernel) w h).1
