set_option maxRecDepth 20000 in
theorem ggL_law_L_holders : GoodIn wsL_law wsL_holders := goodIn_ca (goodIn_r _ [687, 81, 688, 689, 690, 2, 691, 16, 168, 169, 170, 91, 92, 692, 693, 694, 15, 695, 40, 794, 795, 796, 797, 798, 813, 814, 815, 816, 817, 818, 819, 820, 821, 822, 823] (by decide +kernel) (by decide +kernel)) (goodIn_sub (fun _ h => List.mem_append_left _ (List.mem_append_left _ (List.mem_append_right _ h))) (by decide +kernel))
set_option maxRecDepth 20000 in
theorem gL_law_L_holders : GoodIn wsL_law (va_wsS RL 157 yL_holders wsL_holders) := goodIn_app (goodIn_of _ (by decide +kernel)) ggL_law_L_holders
set_option maxRecDepth 20000 in
theorem ggL_law_X5_holders : GoodIn wsL_law wsX5_holders := goodIn_r _ [699, 127, 262, 263, 5, 264, 135, 136, 137, 277, 278, 279, 280, 63, 799, 800, 801, 802, 803, 804, 805, 806, 807, 808, 809, 810, 811, 812] (by decide +kernel) (by decide +kernel)
set_option maxRecDepth 20000 in
theorem gL_law_X5_holders : GoodIn wsL_law (wsV RL 159 RX5 yX5_holders wsX5_holders) := goodIn_app (goodIn_of _ (by decide +kernel)) ggL_law_X5_holders
set_option maxRecDepth 20000 in
theorem ggL_law_L_queueLength : GoodIn wsL_law wsL_queueLength := goodIn_ca (goodIn_r _ [702, 81, 703, 704, 705, 2, 706, 16, 707, 168, 169, 170, 91, 92, 794, 795, 796, 797, 798, 813, 814, 815, 816, 817, 818, 819, 820, 821, 822, 823] (by decide +kernel) (by decide +kernel)) (goodIn_sub (fun _ h => List.mem_append_left _ (List.mem_append_left _ (List.mem_append_right _ h))) (by decide +kernel))
set_option maxRecDepth 20000 in
theorem gL_law_L_queueLength : GoodIn wsL_law (va_wsS RL 160 yL_queueLength wsL_queueLength) := goodIn_app (goodIn_of _ (by decide +kernel)) ggL_law_L_queueLength
set_option maxRecDepth 20000 in
theorem ggL_law_X5_queueLength : GoodIn wsL_law wsX5_queueLength := goodIn_r _ [711, 127, 262, 263, 5, 264, 135, 136, 137, 285, 286, 287, 288, 63, 799, 800, 801, 802, 803, 804, 805, 806, 807, 808, 809, 810, 811, 812] (by decide +kernel) (by decide +kernel)
set_option maxRecDepth 20000 in
theorem gL_law_X5_queueLength : GoodIn wsL_law (wsV RL 162 RX5 yX5_queueLength wsX5_queueLength) := goodIn_app (goodIn_of _ (by decide +kernel)) ggL_law_X5_queueLength
set_option maxRecDepth 20000 in
theorem ggL_law_L_queued : GoodIn wsL_law wsL_queued := goodIn_ca (goodIn_r _ [714, 81, 715, 716, 717, 2, 718, 91, 92, 16, 707, 719, 720, 168, 169, 170, 794, 795, 796, 797, 798, 813, 814, 815, 816, 817, 818, 819, 820, 821, 822, 823] (by decide +kernel) (by decide +kernel)) (goodIn_sub (fun _ h => List.mem_append_left _ (List.mem_append_left _ (List.mem_append_right _ h))) (by decide +kernel))
set_option maxRecDepth 20000 in
theorem gL_law_L_queued : GoodIn wsL_law (va_wsS RL 163 yL_queued wsL_queued) := goodIn_app (goodIn_of _ (by decide +kernel)) ggL_law_L_queued
set_option maxRecDepth 20000 in
theorem ggL_law_X5_queued : GoodIn wsL_law wsX5_queued := goodIn_r _ [724, 127, 262, 263, 5, 264, 135, 136, 137, 285, 286, 287, 288, 63, 304, 305, 306, 307, 138, 139, 140, 141, 799, 800, 801, 802, 803, 804, 805, 806, 807, 808, 809, 810, 811, 812] (by decide +kernel) (by decide +kernel)
set_option maxRecDepth 20000 in
theorem gL_law_X5_queued : GoodIn wsL_law (wsV RL 165 RX5 yX5_queued wsX5_queued) := goodIn_app (goodIn_of _ (by decide +kernel)) ggL_law_X5_queued
set_option maxRecDepth 20000 in
theorem ggL_law_L_ifRequested : GoodIn wsL_law wsL_ifRequested := goodIn_ca (goodIn_ca (goodIn_r _ [727, 81, 158, 728, 729, 730, 2, 731, 16, 17, 163, 164, 165, 166, 167, 88, 89, 90, 91, 92, 168, 169, 170, 93, 94, 95, 15, 96, 35, 38, 732, 109, 110, 111, 112, 113, 114, 115, 36, 37, 39, 40, 41, 42, 116, 117, 118, 171, 172, 173, 174, 21, 175, 176, 177, 178, 179, 180, 181, 182, 183, 184, 185, 186, 187, 188, 189, 190, 191, 192, 193, 194, 195, 196, 197, 20, 198, 199, 200, 201, 202, 46, 47, 203, 204, 205, 206, 207, 208, 209, 210, 211, 212, 213, 214, 215, 216, 217, 218, 219, 220, 221, 222, 223, 224, 225, 226, 227, 228, 229, 230, 231, 232, 233, 234, 235, 236, 237, 238, 239, 240, 241, 242, 243, 244, 245, 246, 247, 248, 249, 250, 251, 252, 253, 794, 795, 796, 797, 798, 813, 814, 815, 816, 817, 818, 819, 820, 821, 822, 823, 824, 825] (by decide +kernel) (by decide +kernel)) (goodIn_sub (fun _ h => List.mem_append_right _ h) (by decide +kernel))) (goodIn_sub (fun _ h => List.mem_append_left _ (List.mem_append_left _ (List.mem_append_right _ h))) (by decide +kernel))
set_option maxRecDepth 20000 in
theorem gL_law_L_ifRequested : GoodIn wsL_law (va_wsS RL 166 yL_ifRequested wsL_ifRequested) := goodIn_app (goodIn_of _ (by decide +kernel)) ggL_law_L_ifRequested
set_option maxRecDepth 20000 in
theorem ggL_law_X5_ifRequested : GoodIn wsL_law wsX5_ifRequested := goodIn_r _ [736, 127, 258, 259, 260, 5, 261, 132, 133, 134, 135, 136, 137, 262, 263, 264, 265, 266, 267, 268, 269, 270, 271, 138, 139, 140, 141, 63, 737, 738, 739, 740, 64, 272, 273, 274, 275, 276, 277, 278, 279, 280, 281, 282, 283, 284, 285, 286, 287, 288, 289, 290, 291, 292, 293, 294, 295, 296, 297, 298, 299, 300, 301, 302, 303, 73, 74, 75, 76, 304, 305, 306, 307, 308, 309, 310, 311, 312, 313, 314, 315, 316, 317, 318, 319, 320, 321, 322, 323, 67, 68, 324, 325, 326, 327, 328, 329, 330, 331, 332, 333, 334, 335, 336, 337, 338, 339, 340, 341, 342, 343, 344, 345, 346, 347, 348, 349, 350, 351, 352, 799, 800, 801, 802, 803, 804, 805, 806, 807, 808, 809, 810, 811, 812] (by decide +kernel) (by decide +kernel)
set_option maxRecDepth 20000 in
theorem gL_law_X5_ifRequested : GoodIn wsL_law (wsV RL 168 RX5 yX5_ifRequested wsX5_ifRequested) := goodIn_app (goodIn_of _ (by decide +kernel)) ggL_law_X5_ifRequested
set_option maxRecDepth 20000 in
theorem ggL_law_L_victimsOf : GoodIn wsL_law wsL_victimsOf := goodIn_ca (goodIn_ca (goodIn_r _ [743, 81, 158, 744, 745, 746, 2, 747, 16, 17, 163, 164, 165, 166, 167, 88, 89, 90, 91, 92, 168, 169, 170, 93, 94, 95, 15, 96, 35, 38, 732, 109, 110, 111, 112, 113, 114, 115, 36, 37, 39, 40, 41, 42, 116, 117, 118, 171, 172, 173, 174, 21, 175, 176, 177, 178, 179, 180, 181, 182, 183, 184, 185, 186, 187, 188, 189, 190, 191, 192, 193, 194, 195, 196, 197, 20, 198, 199, 200, 201, 202, 46, 47, 203, 204, 205, 206, 207, 208, 209, 210, 211, 212, 213, 214, 215, 216, 217, 218, 219, 220, 221, 222, 223, 224, 225, 226, 227, 228, 229, 230, 231, 232, 233, 234, 235, 236, 237, 238, 239, 240, 241, 242, 243, 244, 245, 246, 247, 248, 249, 794, 795, 796, 797, 798, 813, 814, 815, 816, 817, 818, 819, 820, 821, 822, 823, 824, 825] (by decide +kernel) (by decide +kernel)) (goodIn_sub (fun _ h => List.mem_append_right _ h) (by decide +kernel))) (goodIn_sub (fun _ h => List.mem_append_left _ (List.mem_append_left _ (List.mem_append_right _ h))) (by decide +kernel))
set_option maxRecDepth 20000 in
theorem gL_law_L_victimsOf : GoodIn wsL_law (va_wsS RL 169 yL_victimsOf wsL_victimsOf) := goodIn_app (goodIn_of _ (by decide +kernel)) ggL_law_L_victimsOf
set_option maxRecDepth 20000 in
theorem ggL_law_X5_victimsOf : GoodIn wsL_law wsX5_victimsOf := goodIn_r _ [751, 127, 276, 258, 259, 260, 5, 261, 132, 133, 134, 135, 136, 137, 262, 263, 264, 265, 266, 267, 268, 269, 270, 271, 138, 139, 140, 141, 63, 737, 738, 739, 740, 64, 272, 273, 274, 275, 277, 278, 279, 280, 281, 282, 283, 284, 285, 286, 287, 288, 289, 290, 291, 292, 293, 294, 295, 296, 297, 298, 299, 300, 301, 302, 303, 73, 74, 75, 76, 304, 305, 306, 307, 308, 309, 310, 311, 312, 313, 314, 315, 316, 317, 318, 319, 320, 321, 322, 323, 67, 68, 324, 325, 326, 327, 328, 329, 330, 331, 332, 333, 334, 335, 336, 337, 338, 339, 340, 341, 342, 343, 344, 345, 346, 347, 348, 349, 350, 351, 352, 799, 800, 801, 802, 803, 804, 805, 806, 807, 808, 809, 810, 811, 812] (by decide +kernel) (by decide +kernel)
set_option maxRecDepth 20000 in
theorem gL_law_X5_victimsOf : GoodIn wsL_law (wsV RL 171 RX5 yX5_victimsOf wsX5_victimsOf) := goodIn_app (goodIn_of _ (by decide +kernel)) ggL_law_X5_victimsOf
set_option maxRecDepth 20000 in
theorem ggL_law_X4_brokenRings : GoodIn wsL_law wsX4_brokenRings := goodIn_r _ [755, 16, 756, 794, 795, 796, 797, 798, 813, 814, 815, 816, 817, 818, 819, 820, 821, 822, 823] (by decide +kernel) (by decide +kernel)
set_option maxRecDepth 20000 in
theorem gL_law_X4_brokenRings : GoodIn wsL_law (wsV RL 172 RX4 yX4_brokenRings wsX4_brokenRings) := goodIn_app (goodIn_of _ (by decide +kernel)) ggL_law_X4_brokenRings
set_option maxRecDepth 20000 in
theorem ggL_law_X5_brokenRings : GoodIn wsL_law wsX5_brokenRings := goodIn_r _ [760, 127, 63, 799, 800, 801, 802, 803, 804, 805, 806, 807, 808, 809, 810, 811, 812] (by decide +kernel) (by decide +kernel)
set_option maxRecDepth 20000 in
theorem gL_law_X5_brokenRings : GoodIn wsL_law (wsV RL 175 RX5 yX5_brokenRings wsX5_brokenRings) := goodIn_app (goodIn_of _ (by decide +kernel)) ggL_law_X5_brokenRings
set_option maxRecDepth 20000 in
theorem ggL_law_X4_lostWork : GoodIn wsL_law wsX4_lostWork := goodIn_r _ [764, 16, 765, 794, 795, 796, 797, 798, 813, 814, 815, 816, 817, 818, 819, 820, 821, 822, 823] (by decide +kernel) (by decide +kernel)
set_option maxRecDepth 20000 in
theorem gL_law_X4_lostWork : GoodIn wsL_law (wsV RL 176 RX4 yX4_lostWork wsX4_lostWork) := goodIn_app (goodIn_of _ (by decide +kernel)) ggL_law_X4_lostWork
set_option maxRecDepth 20000 in
theorem ggL_law_X5_lostWork : GoodIn wsL_law wsX5_lostWork := goodIn_r _ [769, 127, 63, 799, 800, 801, 802, 803, 804, 805, 806, 807, 808, 809, 810, 811, 812] (by decide +kernel) (by decide +kernel)
set_option maxRecDepth 20000 in
theorem gL_law_X5_lostWork : GoodIn wsL_law (wsV RL 179 RX5 yX5_lostWork wsX5_lostWork) := goodIn_app (goodIn_of _ (by decide +kernel)) ggL_law_X5_lostWork
set_option maxRecDepth 20000 in
theorem ggL_law_X4_locksHeld : GoodIn wsL_law wsX4_locksHeld := goodIn_r _ [773, 16, 692, 693, 694, 15, 695, 40, 674, 675, 676, 677, 678, 679, 680, 794, 795, 796, 797, 798, 813, 814, 815, 816, 817, 818, 819, 820, 821, 822, 823] (by decide +kernel) (by decide +kernel)
set_option maxRecDepth 20000 in
theorem gL_law_X4_locksHeld : GoodIn wsL_law (wsV RL 180 RX4 yX4_locksHeld wsX4_locksHeld) := goodIn_app (goodIn_of _ (by decide +kernel)) ggL_law_X4_locksHeld
set_option maxRecDepth 20000 in
theorem ggL_law_X5_locksHeld : GoodIn wsL_law wsX5_locksHeld := goodIn_r _ [777, 127, 63, 799, 800, 801, 802, 803, 804, 805, 806, 807, 808, 809, 810, 811, 812] (by decide +kernel) (by decide +kernel)
set_option maxRecDepth 20000 in
theorem gL_law_X5_locksHeld : GoodIn wsL_law (wsV RL 183 RX5 yX5_locksHeld wsX5_locksHeld) := goodIn_app (goodIn_of _ (by decide +kernel)) ggL_law_X5_locksHeld
set_option maxRecDepth 20000 in
theorem ggL_law_X4_savedStates : GoodIn wsL_law wsX4_savedStates := goodIn_r _ [781, 25, 564, 794, 795, 796, 797, 798, 826, 827, 828] (by decide +kernel) (by decide +kernel)
set_option maxRecDepth 20000 in
theorem gL_law_X4_savedStates : GoodIn wsL_law (wsV RL 184 RX4 yX4_savedStates wsX4_savedStates) := goodIn_app (goodIn_of _ (by decide +kernel)) ggL_law_X4_savedStates
set_option maxRecDepth 20000 in
theorem ggL_law_X5_savedStates : GoodIn wsL_law wsX5_savedStates := goodIn_r _ [785, 127, 146, 799, 800, 801, 802, 803, 804, 805, 806, 807, 808, 809, 810, 811, 812] (by decide +kernel) (by decide +kernel)
set_option maxRecDepth 20000 in
theorem gL_law_X5_savedStates : GoodIn wsL_law (wsV RL 187 RX5 yX5_savedStates wsX5_savedStates) := goodIn_app (goodIn_of _ (by decide +kernel)) ggL_law_X5_savedStates
set_option maxRecDepth 20000 in
theorem ggL_law_X4_textLength : GoodIn wsL_law wsX4_textLength := goodIn_r _ [789, 29, 442, 794, 795, 796, 797, 798, 829, 830, 831, 832, 833, 834] (by decide +kernel) (by decide +kernel)
set_option maxRecDepth 20000 in
theorem gL_law_X4_textLength : GoodIn wsL_law (wsV RL 188 RX4 yX4_textLength wsX4_textLength) := goodIn_app (goodIn_of _ (by decide +kernel)) ggL_law_X4_textLength
set_option maxRecDepth 20000 in
theorem ggL_law_X5_textLength : GoodIn wsL_law wsX5_textLength := goodIn_r _ [793, 127, 452, 799, 800, 801, 802, 803, 804, 805, 806, 807, 808, 809, 810, 811, 812] (by decide +kernel) (by decide +kernel)
set_option maxRecDepth 20000 in
theorem gL_law_X5_textLength : GoodIn wsL_law (wsV RL 191 RX5 yX5_textLength wsX5_textLength) := goodIn_app (goodIn_of _ (by decide +kernel)) ggL_law_X5_textLength
