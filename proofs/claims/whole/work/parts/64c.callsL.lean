set_option maxRecDepth 20000 in
theorem ggL_law_X5_errorPosition : GoodIn wsL_law wsX5_errorPosition := goodIn_r _ [504, 127, 505, 506, 507, 5, 508, 452, 66, 509, 510, 511, 512, 513, 514, 515, 516, 517, 518, 519, 135, 136, 137, 520, 521, 522, 523, 799, 800, 801, 802, 803, 804, 805, 806, 807, 808, 809, 810, 811, 812] (by decide +kernel) (by decide +kernel)
set_option maxRecDepth 20000 in
theorem gL_law_X5_errorPosition : GoodIn wsL_law (wsV RL 125 RX5 yX5_errorPosition wsX5_errorPosition) := goodIn_app (goodIn_of _ (by decide +kernel)) ggL_law_X5_errorPosition
set_option maxRecDepth 20000 in
theorem ggL_law_L_runText : GoodIn wsL_law wsL_runText := goodIn_ca (goodIn_r _ [526, 82, 527, 528, 529, 2, 530, 100, 101, 29, 25, 16, 531, 532, 533, 465, 466, 467, 28, 468, 469, 447, 470, 471, 472, 473, 474, 475, 476, 477, 478, 479, 480, 481, 482, 483, 484, 485, 486, 487, 488, 58, 489, 490, 491, 492, 493, 494, 495, 496, 497, 498, 499, 500, 102, 103, 104, 24, 105, 53, 106, 107, 108, 109, 110, 15, 111, 35, 112, 113, 114, 115, 36, 37, 38, 39, 40, 41, 42, 116, 117, 118, 534, 535, 536, 537, 538, 539, 93, 94, 95, 96, 540, 541, 542, 543, 360, 119, 120, 121, 122, 171, 172, 173, 174, 21, 175, 176, 177, 178, 179, 180, 181, 182, 183, 184, 185, 186, 187, 188, 189, 190, 191, 192, 193, 194, 195, 196, 197, 20, 198, 199, 200, 201, 202, 46, 47, 203, 204, 205, 206, 207, 208, 209, 210, 211, 212, 213, 214, 215, 216, 217, 218, 219, 220, 221, 222, 223, 224, 225, 226, 227, 228, 229, 230, 231, 232, 233, 234, 235, 236, 237, 238, 239, 240, 241, 242, 243, 244, 245, 246, 247, 248, 249, 380, 381, 382, 383, 384, 404, 405, 406, 407, 544, 794, 795, 796, 797, 798, 829, 830, 831, 832, 833, 834, 826, 827, 828, 813, 814, 815, 816, 817, 818, 819, 820, 821, 822, 823, 824, 825] (by decide +kernel) (by decide +kernel)) (goodIn_sub (fun _ h => List.mem_append_left _ (List.mem_append_right _ h)) (by decide +kernel))
set_option maxRecDepth 20000 in
theorem gL_law_L_runText : GoodIn wsL_law (va_wsS RL 126 yL_runText wsL_runText) := goodIn_app (goodIn_of _ (by decide +kernel)) ggL_law_L_runText
set_option maxRecDepth 20000 in
theorem ggL_law_X5_runText : GoodIn wsL_law wsX5_runText := goodIn_r _ [548, 127, 452, 505, 506, 507, 5, 508, 66, 509, 510, 511, 512, 513, 514, 515, 516, 517, 518, 519, 135, 136, 137, 520, 521, 522, 523, 142, 143, 144, 145, 146, 65, 63, 549, 550, 551, 552, 128, 129, 130, 131, 132, 133, 134, 138, 139, 140, 141, 258, 259, 260, 261, 262, 263, 264, 265, 266, 267, 268, 269, 270, 271, 365, 366, 367, 368, 412, 413, 414, 415, 431, 432, 433, 434, 389, 390, 391, 392, 553, 554, 555, 556, 147, 148, 149, 150, 73, 74, 75, 76, 272, 273, 274, 275, 276, 277, 278, 279, 280, 281, 282, 283, 284, 285, 286, 287, 288, 289, 290, 291, 292, 293, 294, 295, 296, 297, 298, 299, 300, 301, 302, 303, 304, 305, 306, 307, 308, 309, 310, 311, 312, 313, 314, 315, 316, 317, 318, 319, 320, 321, 322, 323, 67, 68, 324, 325, 326, 327, 328, 329, 330, 331, 332, 333, 334, 335, 336, 337, 338, 339, 340, 341, 342, 343, 344, 345, 346, 347, 348, 349, 350, 351, 352, 369, 370, 371, 372, 416, 417, 418, 419, 69, 70, 71, 72, 393, 394, 395, 396, 799, 800, 801, 802, 803, 804, 805, 806, 807, 808, 809, 810, 811, 812] (by decide +kernel) (by decide +kernel)
set_option maxRecDepth 20000 in
theorem gL_law_X5_runText : GoodIn wsL_law (wsV RL 129 RX5 yX5_runText wsX5_runText) := goodIn_app (goodIn_of _ (by decide +kernel)) ggL_law_X5_runText
set_option maxRecDepth 20000 in
theorem ggL_law_L_undo : GoodIn wsL_law wsL_undo := goodIn_ca (goodIn_r _ [559, 82, 560, 561, 562, 2, 563, 100, 101, 25, 564, 16, 565, 566, 567, 24, 568, 106, 107, 53, 108, 109, 110, 15, 111, 35, 112, 113, 114, 115, 36, 37, 38, 39, 40, 41, 42, 116, 117, 118, 794, 795, 796, 797, 798, 826, 827, 828, 813, 814, 815, 816, 817, 818, 819, 820, 821, 822, 823] (by decide +kernel) (by decide +kernel)) (goodIn_sub (fun _ h => List.mem_append_left _ (List.mem_append_right _ h)) (by decide +kernel))
set_option maxRecDepth 20000 in
theorem gL_law_L_undo : GoodIn wsL_law (va_wsS RL 130 yL_undo wsL_undo) := goodIn_app (goodIn_of _ (by decide +kernel)) ggL_law_L_undo
set_option maxRecDepth 20000 in
theorem ggL_law_X5_undo : GoodIn wsL_law wsX5_undo := goodIn_r _ [572, 146, 127, 63, 65, 799, 800, 801, 802, 803, 804, 805, 806, 807, 808, 809, 810, 811, 812] (by decide +kernel) (by decide +kernel)
set_option maxRecDepth 20000 in
theorem gL_law_X5_undo : GoodIn wsL_law (wsV RL 132 RX5 yX5_undo wsX5_undo) := goodIn_app (goodIn_of _ (by decide +kernel)) ggL_law_X5_undo
set_option maxRecDepth 20000 in
theorem ggL_law_L_state : GoodIn wsL_law wsL_state := goodIn_ca (goodIn_r _ [575, 81, 576, 577, 578, 2, 579, 16, 88, 89, 90, 91, 92, 93, 94, 95, 15, 96, 35, 38, 794, 795, 796, 797, 798, 813, 814, 815, 816, 817, 818, 819, 820, 821, 822, 823] (by decide +kernel) (by decide +kernel)) (goodIn_sub (fun _ h => List.mem_append_left _ (List.mem_append_left _ (List.mem_append_right _ h))) (by decide +kernel))
set_option maxRecDepth 20000 in
theorem gL_law_L_state : GoodIn wsL_law (va_wsS RL 133 yL_state wsL_state) := goodIn_app (goodIn_of _ (by decide +kernel)) ggL_law_L_state
set_option maxRecDepth 20000 in
theorem ggL_law_X5_state : GoodIn wsL_law wsX5_state := goodIn_r _ [583, 584, 585, 586, 5, 587, 127, 132, 133, 134, 135, 136, 137, 138, 139, 140, 141, 63, 799, 800, 801, 802, 803, 804, 805, 806, 807, 808, 809, 810, 811, 812] (by decide +kernel) (by decide +kernel)
set_option maxRecDepth 20000 in
theorem gL_law_X5_state : GoodIn wsL_law (wsV RL 135 RX5 yX5_state wsX5_state) := goodIn_app (goodIn_of _ (by decide +kernel)) ggL_law_X5_state
set_option maxRecDepth 20000 in
theorem ggL_law_L_workOf : GoodIn wsL_law wsL_workOf := goodIn_ca (goodIn_r _ [590, 81, 591, 592, 593, 2, 594, 16, 360, 88, 89, 90, 91, 92, 794, 795, 796, 797, 798, 813, 814, 815, 816, 817, 818, 819, 820, 821, 822, 823] (by decide +kernel) (by decide +kernel)) (goodIn_sub (fun _ h => List.mem_append_left _ (List.mem_append_left _ (List.mem_append_right _ h))) (by decide +kernel))
set_option maxRecDepth 20000 in
theorem gL_law_L_workOf : GoodIn wsL_law (va_wsS RL 136 yL_workOf wsL_workOf) := goodIn_app (goodIn_of _ (by decide +kernel)) ggL_law_L_workOf
set_option maxRecDepth 20000 in
theorem ggL_law_X5_workOf : GoodIn wsL_law wsX5_workOf := goodIn_r _ [598, 584, 585, 586, 5, 587, 127, 132, 133, 134, 135, 136, 137, 138, 139, 140, 141, 63, 799, 800, 801, 802, 803, 804, 805, 806, 807, 808, 809, 810, 811, 812] (by decide +kernel) (by decide +kernel)
set_option maxRecDepth 20000 in
theorem gL_law_X5_workOf : GoodIn wsL_law (wsV RL 138 RX5 yX5_workOf wsX5_workOf) := goodIn_app (goodIn_of _ (by decide +kernel)) ggL_law_X5_workOf
set_option maxRecDepth 20000 in
theorem ggL_law_L_abortsOf : GoodIn wsL_law wsL_abortsOf := goodIn_ca (goodIn_r _ [601, 81, 602, 603, 604, 2, 605, 16, 606, 88, 89, 90, 91, 92, 794, 795, 796, 797, 798, 813, 814, 815, 816, 817, 818, 819, 820, 821, 822, 823] (by decide +kernel) (by decide +kernel)) (goodIn_sub (fun _ h => List.mem_append_left _ (List.mem_append_left _ (List.mem_append_right _ h))) (by decide +kernel))
set_option maxRecDepth 20000 in
theorem gL_law_L_abortsOf : GoodIn wsL_law (va_wsS RL 139 yL_abortsOf wsL_abortsOf) := goodIn_app (goodIn_of _ (by decide +kernel)) ggL_law_L_abortsOf
set_option maxRecDepth 20000 in
theorem ggL_law_X5_abortsOf : GoodIn wsL_law wsX5_abortsOf := goodIn_r _ [610, 584, 585, 586, 5, 587, 127, 132, 133, 134, 135, 136, 137, 138, 139, 140, 141, 63, 799, 800, 801, 802, 803, 804, 805, 806, 807, 808, 809, 810, 811, 812] (by decide +kernel) (by decide +kernel)
set_option maxRecDepth 20000 in
theorem gL_law_X5_abortsOf : GoodIn wsL_law (wsV RL 141 RX5 yX5_abortsOf wsX5_abortsOf) := goodIn_app (goodIn_of _ (by decide +kernel)) ggL_law_X5_abortsOf
set_option maxRecDepth 20000 in
theorem ggL_law_L_birthOf : GoodIn wsL_law wsL_birthOf := goodIn_ca (goodIn_r _ [613, 81, 614, 615, 616, 2, 617, 16, 87, 88, 89, 90, 91, 92, 794, 795, 796, 797, 798, 813, 814, 815, 816, 817, 818, 819, 820, 821, 822, 823] (by decide +kernel) (by decide +kernel)) (goodIn_sub (fun _ h => List.mem_append_left _ (List.mem_append_left _ (List.mem_append_right _ h))) (by decide +kernel))
set_option maxRecDepth 20000 in
theorem gL_law_L_birthOf : GoodIn wsL_law (va_wsS RL 142 yL_birthOf wsL_birthOf) := goodIn_app (goodIn_of _ (by decide +kernel)) ggL_law_L_birthOf
set_option maxRecDepth 20000 in
theorem ggL_law_X5_birthOf : GoodIn wsL_law wsX5_birthOf := goodIn_r _ [621, 584, 585, 586, 5, 587, 127, 132, 133, 134, 135, 136, 137, 138, 139, 140, 141, 63, 799, 800, 801, 802, 803, 804, 805, 806, 807, 808, 809, 810, 811, 812] (by decide +kernel) (by decide +kernel)
set_option maxRecDepth 20000 in
theorem gL_law_X5_birthOf : GoodIn wsL_law (wsV RL 144 RX5 yX5_birthOf wsX5_birthOf) := goodIn_app (goodIn_of _ (by decide +kernel)) ggL_law_X5_birthOf
set_option maxRecDepth 20000 in
theorem ggL_law_L_held : GoodIn wsL_law wsL_held := goodIn_ca (goodIn_r _ [624, 81, 625, 626, 627, 2, 628, 16, 629, 88, 89, 90, 91, 92, 168, 169, 170, 794, 795, 796, 797, 798, 813, 814, 815, 816, 817, 818, 819, 820, 821, 822, 823] (by decide +kernel) (by decide +kernel)) (goodIn_sub (fun _ h => List.mem_append_left _ (List.mem_append_left _ (List.mem_append_right _ h))) (by decide +kernel))
set_option maxRecDepth 20000 in
theorem gL_law_L_held : GoodIn wsL_law (va_wsS RL 145 yL_held wsL_held) := goodIn_app (goodIn_of _ (by decide +kernel)) ggL_law_L_held
set_option maxRecDepth 20000 in
theorem ggL_law_X5_held : GoodIn wsL_law wsX5_held := goodIn_r _ [633, 127, 132, 133, 5, 134, 135, 136, 137, 262, 263, 264, 277, 278, 279, 280, 63, 799, 800, 801, 802, 803, 804, 805, 806, 807, 808, 809, 810, 811, 812] (by decide +kernel) (by decide +kernel)
set_option maxRecDepth 20000 in
theorem gL_law_X5_held : GoodIn wsL_law (wsV RL 147 RX5 yX5_held wsX5_held) := goodIn_app (goodIn_of _ (by decide +kernel)) ggL_law_X5_held
set_option maxRecDepth 20000 in
theorem ggL_law_L_awaited : GoodIn wsL_law wsL_awaited := goodIn_ca (goodIn_r _ [636, 81, 637, 638, 639, 2, 640, 16, 641, 88, 89, 90, 91, 92, 794, 795, 796, 797, 798, 813, 814, 815, 816, 817, 818, 819, 820, 821, 822, 823] (by decide +kernel) (by decide +kernel)) (goodIn_sub (fun _ h => List.mem_append_left _ (List.mem_append_left _ (List.mem_append_right _ h))) (by decide +kernel))
set_option maxRecDepth 20000 in
theorem gL_law_L_awaited : GoodIn wsL_law (va_wsS RL 148 yL_awaited wsL_awaited) := goodIn_app (goodIn_of _ (by decide +kernel)) ggL_law_L_awaited
set_option maxRecDepth 20000 in
theorem ggL_law_X5_awaited : GoodIn wsL_law wsX5_awaited := goodIn_r _ [645, 584, 585, 586, 5, 587, 127, 132, 133, 134, 135, 136, 137, 138, 139, 140, 141, 63, 799, 800, 801, 802, 803, 804, 805, 806, 807, 808, 809, 810, 811, 812] (by decide +kernel) (by decide +kernel)
set_option maxRecDepth 20000 in
theorem gL_law_X5_awaited : GoodIn wsL_law (wsV RL 150 RX5 yX5_awaited wsX5_awaited) := goodIn_app (goodIn_of _ (by decide +kernel)) ggL_law_X5_awaited
set_option maxRecDepth 20000 in
theorem ggL_law_L_waitsFor : GoodIn wsL_law wsL_waitsFor := goodIn_ca (goodIn_r _ [648, 81, 649, 650, 651, 2, 652, 16, 88, 89, 90, 91, 92, 653, 204, 205, 15, 206, 38, 39, 179, 180, 181, 182, 40, 207, 208, 209, 210, 42, 41, 794, 795, 796, 797, 798, 813, 814, 815, 816, 817, 818, 819, 820, 821, 822, 823] (by decide +kernel) (by decide +kernel)) (goodIn_sub (fun _ h => List.mem_append_left _ (List.mem_append_left _ (List.mem_append_right _ h))) (by decide +kernel))
set_option maxRecDepth 20000 in
theorem gL_law_L_waitsFor : GoodIn wsL_law (va_wsS RL 151 yL_waitsFor wsL_waitsFor) := goodIn_app (goodIn_of _ (by decide +kernel)) ggL_law_L_waitsFor
set_option maxRecDepth 20000 in
theorem ggL_law_X5_waitsFor : GoodIn wsL_law wsX5_waitsFor := goodIn_r _ [657, 127, 132, 133, 5, 134, 135, 136, 137, 658, 659, 660, 661, 329, 330, 331, 332, 138, 139, 140, 141, 63, 277, 278, 279, 280, 293, 294, 295, 333, 334, 335, 336, 304, 305, 306, 307, 799, 800, 801, 802, 803, 804, 805, 806, 807, 808, 809, 810, 811, 812] (by decide +kernel) (by decide +kernel)
set_option maxRecDepth 20000 in
theorem gL_law_X5_waitsFor : GoodIn wsL_law (wsV RL 153 RX5 yX5_waitsFor wsX5_waitsFor) := goodIn_app (goodIn_of _ (by decide +kernel)) ggL_law_X5_waitsFor
set_option maxRecDepth 20000 in
theorem ggL_law_L_blockers : GoodIn wsL_law wsL_blockers := goodIn_ca (goodIn_r _ [664, 81, 665, 666, 667, 2, 668, 16, 88, 89, 90, 91, 92, 669, 670, 671, 15, 672, 673, 204, 205, 206, 38, 39, 179, 180, 181, 182, 40, 207, 208, 209, 210, 42, 41, 674, 675, 676, 677, 678, 679, 680, 794, 795, 796, 797, 798, 813, 814, 815, 816, 817, 818, 819, 820, 821, 822, 823] (by decide +kernel) (by decide +kernel)) (goodIn_sub (fun _ h => List.mem_append_left _ (List.mem_append_left _ (List.mem_append_right _ h))) (by decide +kernel))
set_option maxRecDepth 20000 in
theorem gL_law_L_blockers : GoodIn wsL_law (va_wsS RL 154 yL_blockers wsL_blockers) := goodIn_app (goodIn_of _ (by decide +kernel)) ggL_law_L_blockers
set_option maxRecDepth 20000 in
theorem ggL_law_X5_blockers : GoodIn wsL_law wsX5_blockers := goodIn_r _ [684, 127, 132, 133, 5, 134, 135, 136, 137, 658, 659, 660, 661, 329, 330, 331, 332, 138, 139, 140, 141, 63, 277, 278, 279, 280, 293, 294, 295, 333, 334, 335, 336, 304, 305, 306, 307, 799, 800, 801, 802, 803, 804, 805, 806, 807, 808, 809, 810, 811, 812] (by decide +kernel) (by decide +kernel)
set_option maxRecDepth 20000 in
theorem gL_law_X5_blockers : GoodIn wsL_law (wsV RL 156 RX5 yX5_blockers wsX5_blockers) := goodIn_app (goodIn_of _ (by decide +kernel)) ggL_law_X5_blockers
