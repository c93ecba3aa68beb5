set_option maxRecDepth 20000 in
theorem ggL_victimsOf_X4_victimsOf : GoodIn wsL_victimsOf wsX4_victimsOf := goodIn_ca (goodIn_ca (goodIn_r _ [7, 8, 9, 10, 11, 6, 12, 13, 14, 15, 16, 17, 18, 19, 20, 21, 22, 23, 24, 25, 26, 27, 28, 29, 30, 31, 32, 33, 34, 35, 36, 37, 38, 39, 40, 41, 42, 43, 44, 45, 46, 47, 48, 49, 50, 51, 52, 53, 54, 55, 56, 57, 58, 59, 60, 61, 62, 63, 64, 65, 66, 67, 68, 69, 70, 71, 72, 73, 74, 75, 76, 77, 78, 79, 80, 81, 82, 83, 84, 85, 86, 87, 88, 89, 90, 91, 92, 93, 94, 95, 96, 97, 98, 99, 100, 101, 102, 103, 104, 105, 106, 107, 108, 109, 110, 111, 112, 113, 114, 115, 116, 117, 118, 119, 120, 121, 122, 123, 124, 125, 126, 127, 128, 129, 130, 131, 132, 133, 134, 135, 136, 137, 138, 139, 140, 141, 142, 143, 144, 145, 146, 147] (by decide +kernel) (by decide +kernel)) (goodIn_sub (fun _ h => List.mem_cons_of_mem _ (List.mem_append_left _ (List.mem_append_right _ h))) (by decide +kernel))) (goodIn_sub (fun _ h => List.mem_cons_of_mem _ (List.mem_append_right _ h)) (by decide +kernel))
set_option maxRecDepth 20000 in
theorem gL_victimsOf_X4_victimsOf : GoodIn wsL_victimsOf (wsV RL 82 RX4 yX4_victimsOf wsX4_victimsOf) := goodIn_app (goodIn_of _ (by decide +kernel)) ggL_victimsOf_X4_victimsOf
set_option maxRecDepth 20000 in
theorem ggL_law_X4_init : GoodIn wsL_law wsX4_init := goodIn_r _ [9, 10, 11, 12, 13, 14, 15, 16, 17, 18, 19, 20, 21, 22, 23, 24, 25, 26, 27, 28, 29, 30, 31, 32, 33, 34, 35, 36, 37, 38, 39, 40, 41, 42, 43, 44, 45, 46, 47, 48, 49, 50, 51, 52, 53, 54, 55, 56, 57, 58, 813, 814, 815, 816, 817, 818, 819, 820, 821, 822, 823, 794, 795, 796, 797, 798, 824, 825, 826, 827, 828, 829, 830, 831, 832, 833, 834] (by decide +kernel) (by decide +kernel)
set_option maxRecDepth 20000 in
theorem gL_law_X4_init : GoodIn wsL_law (wsX4_init) := ggL_law_X4_init
set_option maxRecDepth 20000 in
theorem ggL_law_X5_init : GoodIn wsL_law wsX5_init := goodIn_r _ [61, 62, 11, 12, 34, 63, 64, 65, 66, 67, 68, 69, 70, 71, 5, 72, 73, 74, 75, 76, 799, 800, 801, 802, 803, 804, 805, 806, 807, 808, 809, 810, 811, 812] (by decide +kernel) (by decide +kernel)
set_option maxRecDepth 20000 in
theorem gL_law_X5_init : GoodIn wsL_law (wsX5_init) := ggL_law_X5_init
set_option maxRecDepth 20000 in
theorem ggL_law_L_begin : GoodIn wsL_law wsL_begin := goodIn_ca (goodIn_ca (goodIn_r _ [80, 81, 82, 83, 84, 85, 2, 86, 16, 25, 87, 88, 89, 90, 91, 92, 93, 94, 95, 15, 96, 35, 38, 97, 98, 99, 100, 101, 102, 103, 104, 24, 105, 53, 106, 107, 108, 109, 110, 111, 112, 113, 114, 115, 36, 37, 39, 40, 41, 42, 116, 117, 118, 119, 120, 121, 122, 794, 795, 796, 797, 798, 813, 814, 815, 816, 817, 818, 819, 820, 821, 822, 823, 826, 827, 828] (by decide +kernel) (by decide +kernel)) (goodIn_sub (fun _ h => List.mem_append_left _ (List.mem_append_left _ (List.mem_append_right _ h))) (by decide +kernel))) (goodIn_sub (fun _ h => List.mem_append_left _ (List.mem_append_right _ h)) (by decide +kernel))
set_option maxRecDepth 20000 in
theorem gL_law_L_begin : GoodIn wsL_law (va_wsS RL 89 yL_begin wsL_begin) := goodIn_app (goodIn_of _ (by decide +kernel)) ggL_law_L_begin
set_option maxRecDepth 20000 in
theorem ggL_law_X5_begin : GoodIn wsL_law wsX5_begin := goodIn_r _ [126, 127, 128, 129, 130, 5, 131, 132, 133, 134, 135, 136, 137, 138, 139, 140, 141, 63, 142, 143, 144, 145, 146, 65, 147, 148, 149, 150, 73, 74, 75, 76, 799, 800, 801, 802, 803, 804, 805, 806, 807, 808, 809, 810, 811, 812] (by decide +kernel) (by decide +kernel)
set_option maxRecDepth 20000 in
theorem gL_law_X5_begin : GoodIn wsL_law (wsV RL 94 RX5 yX5_begin wsX5_begin) := goodIn_app (goodIn_of _ (by decide +kernel)) ggL_law_X5_begin
set_option maxRecDepth 20000 in
theorem ggL_law_X5_thrown : GoodIn wsL_law wsX5_thrown := goodIn_r _ [154, 127, 799, 800, 801, 802, 803, 804, 805, 806, 807, 808, 809, 810, 811, 812] (by decide +kernel) (by decide +kernel)
set_option maxRecDepth 20000 in
theorem gL_law_X5_thrown : GoodIn wsL_law (wsV RL 95 RX5 yX5_thrown wsX5_thrown) := goodIn_app (goodIn_of _ (by decide +kernel)) ggL_law_X5_thrown
set_option maxRecDepth 20000 in
theorem ggL_law_L_request : GoodIn wsL_law wsL_request := goodIn_ca (goodIn_ca (goodIn_ca (goodIn_r _ [157, 81, 158, 82, 159, 160, 161, 2, 162, 16, 25, 163, 164, 165, 166, 167, 88, 89, 90, 91, 92, 168, 169, 170, 93, 94, 95, 15, 96, 35, 38, 97, 98, 99, 100, 101, 102, 103, 104, 24, 105, 53, 106, 107, 108, 109, 110, 111, 112, 113, 114, 115, 36, 37, 39, 40, 41, 42, 116, 117, 118, 171, 172, 173, 174, 21, 175, 176, 177, 178, 179, 180, 181, 182, 183, 184, 185, 186, 187, 188, 189, 190, 191, 192, 193, 194, 195, 196, 197, 20, 198, 199, 200, 201, 202, 46, 47, 203, 204, 205, 206, 207, 208, 209, 210, 211, 212, 213, 214, 215, 216, 217, 218, 219, 220, 221, 222, 223, 224, 225, 226, 227, 228, 229, 230, 231, 232, 233, 234, 235, 236, 237, 238, 239, 240, 241, 242, 243, 244, 245, 246, 247, 248, 249, 250, 251, 252, 253, 794, 795, 796, 797, 798, 813, 814, 815, 816, 817, 818, 819, 820, 821, 822, 823, 826, 827, 828, 824, 825] (by decide +kernel) (by decide +kernel)) (goodIn_sub (fun _ h => List.mem_append_right _ h) (by decide +kernel))) (goodIn_sub (fun _ h => List.mem_append_left _ (List.mem_append_left _ (List.mem_append_right _ h))) (by decide +kernel))) (goodIn_sub (fun _ h => List.mem_append_left _ (List.mem_append_right _ h)) (by decide +kernel))
set_option maxRecDepth 20000 in
theorem gL_law_L_request : GoodIn wsL_law (va_wsS RL 98 yL_request wsL_request) := goodIn_app (goodIn_of _ (by decide +kernel)) ggL_law_L_request
set_option maxRecDepth 20000 in
theorem ggL_law_X5_request : GoodIn wsL_law wsX5_request := goodIn_r _ [257, 127, 258, 259, 260, 5, 261, 132, 133, 134, 135, 136, 137, 262, 263, 264, 265, 266, 267, 268, 269, 270, 271, 138, 139, 140, 141, 63, 142, 143, 144, 145, 146, 65, 272, 273, 274, 275, 276, 277, 278, 279, 280, 281, 282, 283, 284, 285, 286, 287, 288, 289, 290, 291, 292, 293, 294, 295, 296, 297, 298, 299, 300, 301, 302, 303, 73, 74, 75, 76, 304, 305, 306, 307, 308, 309, 310, 311, 312, 313, 314, 315, 316, 317, 318, 319, 320, 321, 322, 323, 67, 68, 324, 325, 326, 327, 328, 329, 330, 331, 332, 333, 334, 335, 336, 337, 338, 339, 340, 341, 342, 343, 344, 345, 346, 347, 348, 349, 350, 351, 352, 799, 800, 801, 802, 803, 804, 805, 806, 807, 808, 809, 810, 811, 812] (by decide +kernel) (by decide +kernel)
set_option maxRecDepth 20000 in
theorem gL_law_X5_request : GoodIn wsL_law (wsV RL 101 RX5 yX5_request wsX5_request) := goodIn_app (goodIn_of _ (by decide +kernel)) ggL_law_X5_request
set_option maxRecDepth 20000 in
theorem ggL_law_L_work : GoodIn wsL_law wsL_work := goodIn_ca (goodIn_ca (goodIn_ca (goodIn_r _ [355, 81, 158, 82, 356, 357, 358, 2, 359, 166, 167, 16, 25, 360, 88, 89, 90, 91, 92, 93, 94, 95, 15, 96, 35, 38, 97, 98, 99, 100, 101, 102, 103, 104, 24, 105, 53, 106, 107, 108, 109, 110, 111, 112, 113, 114, 115, 36, 37, 39, 40, 41, 42, 116, 117, 118, 794, 795, 796, 797, 798, 813, 814, 815, 816, 817, 818, 819, 820, 821, 822, 823, 826, 827, 828] (by decide +kernel) (by decide +kernel)) (goodIn_sub (fun _ h => List.mem_append_right _ h) (by decide +kernel))) (goodIn_sub (fun _ h => List.mem_append_left _ (List.mem_append_left _ (List.mem_append_right _ h))) (by decide +kernel))) (goodIn_sub (fun _ h => List.mem_append_left _ (List.mem_append_right _ h)) (by decide +kernel))
set_option maxRecDepth 20000 in
theorem gL_law_L_work : GoodIn wsL_law (va_wsS RL 102 yL_work wsL_work) := goodIn_app (goodIn_of _ (by decide +kernel)) ggL_law_L_work
set_option maxRecDepth 20000 in
theorem ggL_law_X5_work : GoodIn wsL_law wsX5_work := goodIn_r _ [364, 127, 365, 366, 367, 5, 368, 132, 133, 134, 135, 136, 137, 268, 269, 270, 271, 138, 139, 140, 141, 63, 142, 143, 144, 145, 146, 65, 369, 370, 371, 372, 73, 74, 75, 76, 799, 800, 801, 802, 803, 804, 805, 806, 807, 808, 809, 810, 811, 812] (by decide +kernel) (by decide +kernel)
set_option maxRecDepth 20000 in
theorem gL_law_X5_work : GoodIn wsL_law (wsV RL 105 RX5 yX5_work wsX5_work) := goodIn_app (goodIn_of _ (by decide +kernel)) ggL_law_X5_work
set_option maxRecDepth 20000 in
theorem ggL_law_L_withdraw : GoodIn wsL_law wsL_withdraw := goodIn_ca (goodIn_ca (goodIn_r _ [375, 81, 82, 376, 377, 378, 2, 379, 16, 25, 88, 89, 90, 91, 92, 93, 94, 95, 15, 96, 35, 38, 97, 98, 99, 100, 101, 102, 103, 104, 24, 105, 53, 106, 107, 108, 109, 110, 111, 112, 113, 114, 115, 36, 37, 39, 40, 41, 42, 116, 117, 118, 380, 381, 382, 383, 234, 235, 236, 237, 384, 243, 244, 245, 246, 247, 248, 249, 179, 180, 181, 182, 183, 184, 185, 186, 794, 795, 796, 797, 798, 813, 814, 815, 816, 817, 818, 819, 820, 821, 822, 823, 826, 827, 828] (by decide +kernel) (by decide +kernel)) (goodIn_sub (fun _ h => List.mem_append_left _ (List.mem_append_left _ (List.mem_append_right _ h))) (by decide +kernel))) (goodIn_sub (fun _ h => List.mem_append_left _ (List.mem_append_right _ h)) (by decide +kernel))
set_option maxRecDepth 20000 in
theorem gL_law_L_withdraw : GoodIn wsL_law (va_wsS RL 106 yL_withdraw wsL_withdraw) := goodIn_app (goodIn_of _ (by decide +kernel)) ggL_law_L_withdraw
set_option maxRecDepth 20000 in
theorem ggL_law_X5_withdraw : GoodIn wsL_law wsX5_withdraw := goodIn_r _ [388, 127, 389, 390, 391, 5, 392, 132, 133, 134, 135, 136, 137, 138, 139, 140, 141, 63, 142, 143, 144, 145, 146, 65, 393, 394, 395, 396, 341, 342, 343, 344, 333, 334, 335, 336, 304, 305, 306, 307, 285, 286, 287, 288, 73, 74, 75, 76, 349, 350, 351, 352, 289, 290, 291, 292, 277, 278, 279, 280, 293, 294, 295, 296, 297, 298, 299, 300, 301, 302, 303, 799, 800, 801, 802, 803, 804, 805, 806, 807, 808, 809, 810, 811, 812] (by decide +kernel) (by decide +kernel)
set_option maxRecDepth 20000 in
theorem gL_law_X5_withdraw : GoodIn wsL_law (wsV RL 108 RX5 yX5_withdraw wsX5_withdraw) := goodIn_app (goodIn_of _ (by decide +kernel)) ggL_law_X5_withdraw
set_option maxRecDepth 20000 in
theorem ggL_law_L_commit : GoodIn wsL_law wsL_commit := goodIn_ca (goodIn_ca (goodIn_r _ [399, 81, 82, 400, 401, 402, 2, 403, 16, 25, 88, 89, 90, 91, 92, 93, 94, 95, 15, 96, 35, 38, 97, 98, 99, 100, 101, 102, 103, 104, 24, 105, 53, 106, 107, 108, 109, 110, 111, 112, 113, 114, 115, 36, 37, 39, 40, 41, 42, 116, 117, 118, 404, 405, 406, 407, 234, 235, 236, 237, 238, 239, 240, 241, 384, 243, 244, 245, 246, 247, 248, 249, 179, 180, 181, 182, 183, 184, 185, 186, 794, 795, 796, 797, 798, 813, 814, 815, 816, 817, 818, 819, 820, 821, 822, 823, 826, 827, 828] (by decide +kernel) (by decide +kernel)) (goodIn_sub (fun _ h => List.mem_append_left _ (List.mem_append_left _ (List.mem_append_right _ h))) (by decide +kernel))) (goodIn_sub (fun _ h => List.mem_append_left _ (List.mem_append_right _ h)) (by decide +kernel))
set_option maxRecDepth 20000 in
theorem gL_law_L_commit : GoodIn wsL_law (va_wsS RL 109 yL_commit wsL_commit) := goodIn_app (goodIn_of _ (by decide +kernel)) ggL_law_L_commit
set_option maxRecDepth 20000 in
theorem ggL_law_X5_commit : GoodIn wsL_law wsX5_commit := goodIn_r _ [411, 127, 412, 413, 414, 5, 415, 132, 133, 134, 135, 136, 137, 268, 269, 270, 271, 138, 139, 140, 141, 63, 142, 143, 144, 145, 146, 65, 416, 417, 418, 419, 341, 342, 343, 344, 333, 334, 335, 336, 304, 305, 306, 307, 285, 286, 287, 288, 73, 74, 75, 76, 345, 346, 347, 348, 300, 301, 302, 303, 69, 70, 71, 72, 349, 350, 351, 352, 289, 290, 291, 292, 277, 278, 279, 280, 293, 294, 295, 296, 297, 298, 299, 799, 800, 801, 802, 803, 804, 805, 806, 807, 808, 809, 810, 811, 812] (by decide +kernel) (by decide +kernel)
set_option maxRecDepth 20000 in
theorem gL_law_X5_commit : GoodIn wsL_law (wsV RL 111 RX5 yX5_commit wsX5_commit) := goodIn_app (goodIn_of _ (by decide +kernel)) ggL_law_X5_commit
set_option maxRecDepth 20000 in
theorem ggL_law_L_rollBack : GoodIn wsL_law wsL_rollBack := goodIn_ca (goodIn_ca (goodIn_r _ [422, 81, 82, 423, 424, 425, 2, 426, 16, 25, 88, 89, 90, 91, 92, 93, 94, 95, 15, 96, 35, 38, 97, 98, 99, 100, 101, 102, 103, 104, 24, 105, 53, 106, 107, 108, 109, 110, 111, 112, 113, 114, 115, 36, 37, 39, 40, 41, 42, 116, 117, 118, 404, 405, 406, 407, 234, 235, 236, 237, 238, 239, 240, 241, 384, 243, 244, 245, 246, 247, 248, 249, 179, 180, 181, 182, 183, 184, 185, 186, 794, 795, 796, 797, 798, 813, 814, 815, 816, 817, 818, 819, 820, 821, 822, 823, 826, 827, 828] (by decide +kernel) (by decide +kernel)) (goodIn_sub (fun _ h => List.mem_append_left _ (List.mem_append_left _ (List.mem_append_right _ h))) (by decide +kernel))) (goodIn_sub (fun _ h => List.mem_append_left _ (List.mem_append_right _ h)) (by decide +kernel))
set_option maxRecDepth 20000 in
theorem gL_law_L_rollBack : GoodIn wsL_law (va_wsS RL 112 yL_rollBack wsL_rollBack) := goodIn_app (goodIn_of _ (by decide +kernel)) ggL_law_L_rollBack
set_option maxRecDepth 20000 in
theorem ggL_law_X5_rollBack : GoodIn wsL_law wsX5_rollBack := goodIn_r _ [430, 127, 431, 432, 433, 5, 434, 132, 133, 134, 135, 136, 137, 138, 139, 140, 141, 63, 142, 143, 144, 145, 146, 65, 416, 417, 418, 419, 341, 342, 343, 344, 333, 334, 335, 336, 304, 305, 306, 307, 285, 286, 287, 288, 73, 74, 75, 76, 345, 346, 347, 348, 300, 301, 302, 303, 69, 70, 71, 72, 349, 350, 351, 352, 289, 290, 291, 292, 277, 278, 279, 280, 293, 294, 295, 296, 297, 298, 299, 799, 800, 801, 802, 803, 804, 805, 806, 807, 808, 809, 810, 811, 812] (by decide +kernel) (by decide +kernel)
set_option maxRecDepth 20000 in
theorem gL_law_X5_rollBack : GoodIn wsL_law (wsV RL 114 RX5 yX5_rollBack wsX5_rollBack) := goodIn_app (goodIn_of _ (by decide +kernel)) ggL_law_X5_rollBack
set_option maxRecDepth 20000 in
theorem ggL_law_L_appendText : GoodIn wsL_law wsL_appendText := goodIn_ca (goodIn_ca (goodIn_r _ [437, 158, 82, 438, 439, 440, 2, 441, 166, 167, 100, 101, 29, 442, 443, 444, 445, 28, 446, 447, 58, 794, 795, 796, 797, 798, 829, 830, 831, 832, 833, 834] (by decide +kernel) (by decide +kernel)) (goodIn_sub (fun _ h => List.mem_append_right _ h) (by decide +kernel))) (goodIn_sub (fun _ h => List.mem_append_left _ (List.mem_append_right _ h)) (by decide +kernel))
set_option maxRecDepth 20000 in
theorem gL_law_L_appendText : GoodIn wsL_law (va_wsS RL 115 yL_appendText wsL_appendText) := goodIn_app (goodIn_of _ (by decide +kernel)) ggL_law_L_appendText
set_option maxRecDepth 20000 in
theorem ggL_law_X5_appendText : GoodIn wsL_law wsX5_appendText := goodIn_r _ [451, 452, 127, 66, 135, 136, 5, 137, 799, 800, 801, 802, 803, 804, 805, 806, 807, 808, 809, 810, 811, 812] (by decide +kernel) (by decide +kernel)
set_option maxRecDepth 20000 in
theorem gL_law_X5_appendText : GoodIn wsL_law (wsV RL 117 RX5 yX5_appendText wsX5_appendText) := goodIn_app (goodIn_of _ (by decide +kernel)) ggL_law_X5_appendText
set_option maxRecDepth 20000 in
theorem ggL_law_X4_clearText : GoodIn wsL_law wsX4_clearText := goodIn_r _ [456, 29, 442, 794, 795, 796, 797, 798, 829, 830, 831, 832, 833, 834] (by decide +kernel) (by decide +kernel)
set_option maxRecDepth 20000 in
theorem gL_law_X4_clearText : GoodIn wsL_law (wsV RL 118 RX4 yX4_clearText wsX4_clearText) := goodIn_app (goodIn_of _ (by decide +kernel)) ggL_law_X4_clearText
set_option maxRecDepth 20000 in
theorem ggL_law_X5_clearText : GoodIn wsL_law wsX5_clearText := goodIn_r _ [460, 127, 452, 799, 800, 801, 802, 803, 804, 805, 806, 807, 808, 809, 810, 811, 812] (by decide +kernel) (by decide +kernel)
set_option maxRecDepth 20000 in
theorem gL_law_X5_clearText : GoodIn wsL_law (wsV RL 121 RX5 yX5_clearText wsX5_clearText) := goodIn_app (goodIn_of _ (by decide +kernel)) ggL_law_X5_clearText
set_option maxRecDepth 20000 in
theorem ggL_law_X4_errorPosition : GoodIn wsL_law wsX4_errorPosition := goodIn_r _ [464, 29, 465, 466, 467, 28, 468, 469, 447, 470, 471, 472, 473, 474, 475, 476, 477, 478, 479, 480, 481, 482, 483, 484, 485, 486, 487, 488, 58, 489, 490, 491, 492, 493, 494, 495, 496, 497, 498, 499, 500, 794, 795, 796, 797, 798, 829, 830, 831, 832, 833, 834] (by decide +kernel) (by decide +kernel)
set_option maxRecDepth 20000 in
theorem gL_law_X4_errorPosition : GoodIn wsL_law (wsV RL 122 RX4 yX4_errorPosition wsX4_errorPosition) := goodIn_app (goodIn_of _ (by decide +kernel)) ggL_law_X4_errorPosition
