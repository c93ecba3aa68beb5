set_option maxRecDepth 20000 in
theorem lawin_wsL_law0_r1 : ∀ w ∈ wsL_law0_r1, w ∈ lw_tbl := fun w h => (goodIn_r (big := lw_tbl) wsL_law0_r1 [79, 80, 65, 699, 700, 70, 1055, 81, 82, 83, 84, 85, 86, 87, 88, 66, 203, 204, 141, 142, 67, 205, 154, 155] (by decide +kernel) (by decide +kernel) w h).1
set_option maxRecDepth 20000 in
theorem lawin_wsL_law0_r2 : ∀ w ∈ wsL_law0_r2, w ∈ lw_tbl := fun w h => (goodIn_r (big := lw_tbl) wsL_law0_r2 [68, 206, 174, 175, 69, 207, 89, 90, 91, 92, 140, 93, 96, 99, 102, 104, 106, 108, 110, 144, 145, 146, 147, 148] (by decide +kernel) (by decide +kernel) w h).1
set_option maxRecDepth 20000 in
theorem lawin_wsL_law0_r3 : ∀ w ∈ wsL_law0_r3, w ∈ lw_tbl := fun w h => (goodIn_r (big := lw_tbl) wsL_law0_r3 [156, 157, 158, 159, 160, 163, 162, 177, 178, 179, 180, 701, 702, 703, 704, 714, 715, 716, 718, 721, 722, 705, 707, 21] (by decide +kernel) (by decide +kernel) w h).1
set_option maxRecDepth 20000 in
theorem lawin_wsL_law0_r4 : ∀ w ∈ wsL_law0_r4, w ∈ lw_tbl := fun w h => (goodIn_r (big := lw_tbl) wsL_law0_r4 [708, 709, 711, 22, 712, 289, 290, 64, 291, 292, 293, 294, 295, 296, 297, 94, 298, 299, 300, 301, 74, 369, 370, 371] (by decide +kernel) (by decide +kernel) w h).1
set_option maxRecDepth 20000 in
theorem lawin_wsL_law0_r5 : ∀ w ∈ wsL_law0_r5, w ∈ lw_tbl := fun w h => (goodIn_r (big := lw_tbl) wsL_law0_r5 [372, 373, 374, 375, 376, 75, 392, 393, 394, 395, 164, 165, 396, 397, 398, 399, 400, 402, 401, 76, 112, 113, 115, 403] (by decide +kernel) (by decide +kernel) w h).1
set_option maxRecDepth 20000 in
theorem lawin_wsL_law0_r6 : ∀ w ∈ wsL_law0_r6, w ∈ lw_tbl := fun w h => (goodIn_r (big := lw_tbl) wsL_law0_r6 [404, 405, 406, 764, 765, 766, 767, 713, 768, 770, 23, 771, 772, 773, 774, 775, 776, 777, 778, 780, 24, 781, 782, 784] (by decide +kernel) (by decide +kernel) w h).1
set_option maxRecDepth 20000 in
theorem lawin_wsL_law0_r7 : ∀ w ∈ wsL_law0_r7, w ∈ lw_tbl := fun w h => (goodIn_r (big := lw_tbl) wsL_law0_r7 [25, 785, 717, 786, 788, 26, 789, 756, 757, 758, 759, 407, 408, 409, 410, 411, 412, 413, 414, 415, 416, 417, 422, 77] (by decide +kernel) (by decide +kernel) w h).1
set_option maxRecDepth 20000 in
theorem lawin_wsL_law0_r8 : ∀ w ∈ wsL_law0_r8, w ∈ lw_tbl := fun w h => (goodIn_r (big := lw_tbl) wsL_law0_r8 [418, 419, 420, 438, 440, 5, 441, 442, 443, 444, 445, 446, 448, 6, 449, 450, 452, 7, 453, 454, 456, 8, 457, 458] (by decide +kernel) (by decide +kernel) w h).1
set_option maxRecDepth 20000 in
theorem lawin_wsL_law0_r9 : ∀ w ∈ wsL_law0_r9, w ∈ lw_tbl := fun w h => (goodIn_r (big := lw_tbl) wsL_law0_r9 [460, 9, 461, 462, 463, 464, 465, 466, 468, 10, 469, 470, 471, 472, 473, 474, 476, 11, 477, 478, 480, 12, 481, 482] (by decide +kernel) (by decide +kernel) w h).1
set_option maxRecDepth 20000 in
theorem lawin_wsL_law0_r10 : ∀ w ∈ wsL_law0_r10, w ∈ lw_tbl := fun w h => (goodIn_r (big := lw_tbl) wsL_law0_r10 [484, 13, 485, 486, 488, 14, 489, 490, 492, 15, 493, 100, 98, 95, 494, 495, 496, 497, 498, 500, 16, 501, 502, 504] (by decide +kernel) (by decide +kernel) w h).1
set_option maxRecDepth 20000 in
theorem lawin_wsL_law0_r11 : ∀ w ∈ wsL_law0_r11, w ∈ lw_tbl := fun w h => (goodIn_r (big := lw_tbl) wsL_law0_r11 [17, 505, 506, 507, 508, 509, 510, 512, 18, 513, 514, 515, 516, 517, 790, 791, 792, 793, 794, 796, 27, 797, 798, 799] (by decide +kernel) (by decide +kernel) w h).1
set_option maxRecDepth 20000 in
theorem lawin_wsL_law0_r12 : ∀ w ∈ wsL_law0_r12, w ∈ lw_tbl := fun w h => (goodIn_r (big := lw_tbl) wsL_law0_r12 [800, 801, 802, 803, 804, 806, 28, 807, 808, 810, 29, 811, 720, 812, 814, 30, 815, 816, 818, 31, 819, 820, 822, 32] (by decide +kernel) (by decide +kernel) w h).1
set_option maxRecDepth 20000 in
theorem lawin_wsL_law0_r13 : ∀ w ∈ wsL_law0_r13, w ∈ lw_tbl := fun w h => (goodIn_r (big := lw_tbl) wsL_law0_r13 [823, 824, 826, 33, 827, 828, 829, 830, 831, 833, 34, 834, 835, 837, 35, 838, 839, 841, 36, 842, 843, 845, 37, 846] (by decide +kernel) (by decide +kernel) w h).1
set_option maxRecDepth 20000 in
theorem lawin_wsL_law0_r14 : ∀ w ∈ wsL_law0_r14, w ∈ lw_tbl := fun w h => (goodIn_r (big := lw_tbl) wsL_law0_r14 [847, 849, 38, 850, 851, 853, 39, 854, 855, 857, 40, 858, 723, 859, 861, 41, 862, 863, 865, 42, 866, 867, 869, 43] (by decide +kernel) (by decide +kernel) w h).1
set_option maxRecDepth 20000 in
theorem lawin_wsL_law0_r15 : ∀ w ∈ wsL_law0_r15, w ∈ lw_tbl := fun w h => (goodIn_r (big := lw_tbl) wsL_law0_r15 [870, 871, 873, 44, 874, 875, 877, 45, 878, 879, 881, 46, 882, 883, 885, 47, 886, 518, 519, 520, 521, 522, 523, 524] (by decide +kernel) (by decide +kernel) w h).1
set_option maxRecDepth 20000 in
theorem lawin_wsL_law0_r16 : ∀ w ∈ wsL_law0_r16, w ∈ lw_tbl := fun w h => (goodIn_r (big := lw_tbl) wsL_law0_r16 [97, 887, 888, 889, 890, 891, 893, 48, 894, 895, 897, 49, 898, 526, 527, 528, 529, 530, 531, 532, 533, 534, 535, 536] (by decide +kernel) (by decide +kernel) w h).1
set_option maxRecDepth 20000 in
theorem lawin_wsL_law0_r17 : ∀ w ∈ wsL_law0_r17, w ∈ lw_tbl := fun w h => (goodIn_r (big := lw_tbl) wsL_law0_r17 [537, 899, 900, 901, 902, 903, 905, 50, 906, 907, 909, 51, 910, 538, 539, 540, 541, 542, 543, 544, 545, 546, 547, 548] (by decide +kernel) (by decide +kernel) w h).1
set_option maxRecDepth 20000 in
theorem lawin_wsL_law0_r18 : ∀ w ∈ wsL_law0_r18, w ∈ lw_tbl := fun w h => (goodIn_r (big := lw_tbl) wsL_law0_r18 [911, 912, 913, 914, 915, 917, 52, 918, 919, 921, 53, 922, 549, 550, 551, 552, 553, 554, 555, 923, 924, 925, 926, 927] (by decide +kernel) (by decide +kernel) w h).1
set_option maxRecDepth 20000 in
theorem lawin_wsL_law0_r19 : ∀ w ∈ wsL_law0_r19, w ∈ lw_tbl := fun w h => (goodIn_r (big := lw_tbl) wsL_law0_r19 [929, 54, 930, 556, 557, 558, 559, 560, 561, 562, 182, 565, 566, 567, 568, 181, 931, 932, 933, 934, 719, 219, 220, 221] (by decide +kernel) (by decide +kernel) w h).1
set_option maxRecDepth 20000 in
theorem lawin_wsL_law0_r20 : ∀ w ∈ wsL_law0_r20, w ∈ lw_tbl := fun w h => (goodIn_r (big := lw_tbl) wsL_law0_r20 [222, 935, 936, 937, 938, 223, 224, 225, 226, 227, 228, 229, 230, 183, 231, 232, 233, 234, 235, 236, 237, 238, 186, 184] (by decide +kernel) (by decide +kernel) w h).1
set_option maxRecDepth 20000 in
theorem lawin_wsL_law0_r21 : ∀ w ∈ wsL_law0_r21, w ∈ lw_tbl := fun w h => (goodIn_r (big := lw_tbl) wsL_law0_r21 [188, 239, 241, 0, 242, 243, 245, 1, 246, 247, 249, 2, 250, 251, 252, 253, 254, 255, 257, 3, 258, 939, 940, 941] (by decide +kernel) (by decide +kernel) w h).1
set_option maxRecDepth 20000 in
theorem lawin_wsL_law0_r22 : ∀ w ∈ wsL_law0_r22, w ∈ lw_tbl := fun w h => (goodIn_r (big := lw_tbl) wsL_law0_r22 [942, 943, 945, 55, 946, 947, 949, 56, 950, 724, 725, 726, 951, 953, 57, 954, 955, 957, 58, 958, 569, 570, 571, 572] (by decide +kernel) (by decide +kernel) w h).1
set_option maxRecDepth 20000 in
theorem lawin_wsL_law0_r23 : ∀ w ∈ wsL_law0_r23, w ∈ lw_tbl := fun w h => (goodIn_r (big := lw_tbl) wsL_law0_r23 [573, 574, 575, 185, 187, 189, 577, 578, 579, 581, 19, 582, 583, 585, 20, 586, 587, 959, 960, 961, 962, 963, 965, 59] (by decide +kernel) (by decide +kernel) w h).1
set_option maxRecDepth 20000 in
theorem lawin_wsL_law0_r24 : ∀ w ∈ wsL_law0_r24, w ∈ lw_tbl := fun w h => (goodIn_r (big := lw_tbl) wsL_law0_r24 [966, 967, 969, 60, 970, 588, 589, 590, 591, 592, 593, 594, 166, 596, 597, 598, 599, 760, 761, 762, 763, 600, 601, 602] (by decide +kernel) (by decide +kernel) w h).1
set_option maxRecDepth 20000 in
theorem lawin_wsL_law0_r25 : ∀ w ∈ wsL_law0_r25, w ∈ lw_tbl := fun w h => (goodIn_r (big := lw_tbl) wsL_law0_r25 [603, 604, 605, 606, 971, 972, 973, 974, 975, 977, 61, 978, 607, 608, 609, 610, 611, 612, 613, 979, 980, 981, 982, 614] (by decide +kernel) (by decide +kernel) w h).1
set_option maxRecDepth 20000 in
theorem lawin_wsL_law0_r26 : ∀ w ∈ wsL_law0_r26, w ∈ lw_tbl := fun w h => (goodIn_r (big := lw_tbl) wsL_law0_r26 [615, 616, 617, 618, 619, 620, 101, 983, 984, 985, 986, 621, 622, 623, 624, 625, 626, 627, 987, 988, 989, 990, 628, 629] (by decide +kernel) (by decide +kernel) w h).1
set_option maxRecDepth 20000 in
theorem lawin_wsL_law0_r27 : ∀ w ∈ wsL_law0_r27, w ∈ lw_tbl := fun w h => (goodIn_r (big := lw_tbl) wsL_law0_r27 [630, 631, 632, 633, 634, 107, 991, 992, 993, 994, 635, 636, 637, 638, 639, 640, 641, 103, 995, 996, 997, 998, 642, 643] (by decide +kernel) (by decide +kernel) w h).1
set_option maxRecDepth 20000 in
theorem lawin_wsL_law0_r28 : ∀ w ∈ wsL_law0_r28, w ∈ lw_tbl := fun w h => (goodIn_r (big := lw_tbl) wsL_law0_r28 [644, 645, 646, 647, 648, 649, 999, 1000, 1001, 1002, 1003, 1005, 62, 1006, 650, 651, 652, 653, 654, 655, 656, 657, 658, 659] (by decide +kernel) (by decide +kernel) w h).1
set_option maxRecDepth 20000 in
theorem lawin_wsL_law0_r29 : ∀ w ∈ wsL_law0_r29, w ∈ lw_tbl := fun w h => (goodIn_r (big := lw_tbl) wsL_law0_r29 [660, 661, 275, 276, 78, 277, 278, 279, 280, 1007, 1008, 1009, 1010, 662, 663, 664, 665, 666, 667, 668, 271, 272, 273, 274] (by decide +kernel) (by decide +kernel) w h).1
set_option maxRecDepth 20000 in
theorem lawin_wsL_law0_r30 : ∀ w ∈ wsL_law0_r30, w ∈ lw_tbl := fun w h => (goodIn_r (big := lw_tbl) wsL_law0_r30 [1011, 1012, 1013, 1014, 669, 670, 671, 672, 673, 674, 675, 111, 1015, 1016, 1017, 1018, 676, 677, 678, 679, 680, 681, 682, 109] (by decide +kernel) (by decide +kernel) w h).1
set_option maxRecDepth 20000 in
theorem lawin_wsL_law0_r31 : ∀ w ∈ wsL_law0_r31, w ∈ lw_tbl := fun w h => (goodIn_r (big := lw_tbl) wsL_law0_r31 [105, 1019, 1020, 1021, 1022, 684, 685, 686, 687, 688, 689, 690, 691, 1023, 1024, 1025, 1026, 1027, 1029, 63, 1030, 692, 693, 694] (by decide +kernel) (by decide +kernel) w h).1
set_option maxRecDepth 20000 in
theorem lawin_wsL_law0_r32 : ∀ w ∈ wsL_law0_r32, w ∈ lw_tbl := fun w h => (goodIn_r (big := lw_tbl) wsL_law0_r32 [695, 696, 697, 698, 1031, 1032, 1033, 1034, 259, 260, 261, 262, 114, 1035, 1036, 1037, 1038, 263, 264, 265, 266, 116, 1039, 1040] (by decide +kernel) (by decide +kernel) w h).1
set_option maxRecDepth 20000 in
theorem lawin_wsL_law0_r33 : ∀ w ∈ wsL_law0_r33, w ∈ lw_tbl := fun w h => (goodIn_r (big := lw_tbl) wsL_law0_r33 [1041, 1042, 267, 268, 269, 270, 1043, 1044, 1045, 1046, 281, 282, 283, 284, 1047, 1048, 1049, 1050, 285, 286, 287, 288, 1051, 1052] (by decide +kernel) (by decide +kernel) w h).1
set_option maxRecDepth 20000 in
theorem lawin_wsL_law0_r34 : ∀ w ∈ wsL_law0_r34, w ∈ lw_tbl := fun w h => (goodIn_r (big := lw_tbl) wsL_law0_r34 [1053, 1054] (by decide +kernel) (by decide +kernel) w h).1
set_option maxRecDepth 20000 in
theorem lawin_wsX40 : ∀ w ∈ wsX40, w ∈ lw_tbl := fun w h => (goodIn_r (big := lw_tbl) wsX40 [208, 210, 212, 214, 216] (by decide +kernel) (by decide +kernel) w h).1
set_option maxRecDepth 20000 in
theorem lawin_wsX50 : ∀ w ∈ wsX50, w ∈ lw_tbl := fun w h => (goodIn_r (big := lw_tbl) wsX50 [727, 729, 731, 733, 735, 737, 739, 741, 743, 745, 747, 749, 751, 753] (by decide +kernel) (by decide +kernel) w h).1
set_option maxRecDepth 20000 in
theorem lawin_wsX20 : ∀ w ∈ wsX20, w ∈ lw_tbl := fun w h => (goodIn_r (big := lw_tbl) wsX20 [117, 119, 121, 123, 125, 127, 129, 131, 133, 135, 137] (by decide +kernel) (by decide +kernel) w h).1
set_option maxRecDepth 20000 in
theorem lawin_wsX30 : ∀ w ∈ wsX30, w ∈ lw_tbl := fun w h => (goodIn_r (big := lw_tbl) wsX30 [149, 151] (by decide +kernel) (by decide +kernel) w h).1
set_option maxRecDepth 20000 in
theorem lawin_wsX10 : ∀ w ∈ wsX10, w ∈ lw_tbl := fun w h => (goodIn_r (big := lw_tbl) wsX10 [167, 169, 171] (by decide +kernel) (by decide +kernel) w h).1
set_option maxRecDepth 20000 in
theorem lawin_wsX00 : ∀ w ∈ wsX00, w ∈ lw_tbl := fun w h => (goodIn_r (big := lw_tbl) wsX00 [190, 192, 194, 196, 198, 200] (by decide +kernel) (by decide +kernel) w h).1
theorem lawin_all : ∀ w ∈ (wsL_law0_r1 ++ (wsL_law0_r2 ++ (wsL_law0_r3 ++ (wsL_law0_r4 ++ (wsL_law0_r5 ++ (wsL_law0_r6 ++ (wsL_law0_r7 ++ (wsL_law0_r8 ++ (wsL_law0_r9 ++ (wsL_law0_r10 ++ (wsL_law0_r11 ++ (wsL_law0_r12 ++ (wsL_law0_r13 ++ (wsL_law0_r14 ++ (wsL_law0_r15 ++ (wsL_law0_r16 ++ (wsL_law0_r17 ++ (wsL_law0_r18 ++ (wsL_law0_r19 ++ (wsL_law0_r20 ++ (wsL_law0_r21 ++ (wsL_law0_r22 ++ (wsL_law0_r23 ++ (wsL_law0_r24 ++ (wsL_law0_r25 ++ (wsL_law0_r26 ++ (wsL_law0_r27 ++ (wsL_law0_r28 ++ (wsL_law0_r29 ++ (wsL_law0_r30 ++ (wsL_law0_r31 ++ (wsL_law0_r32 ++ (wsL_law0_r33 ++ (wsL_law0_r34)))))))))))))))))))))))))))))))))), w ∈ lw_tbl := fun w h => (List.mem_append.mp h).elim (fun h => lawin_wsL_law0_r1 w h) (fun h => (List.mem_append.mp h).elim (fun h => lawin_wsL_law0_r2 w h) (fun h => (List.mem_append.mp h).elim (fun h => lawin_wsL_law0_r3 w h) (fun h => (List.mem_append.mp h).elim (fun h => lawin_wsL_law0_r4 w h) (fun h => (List.mem_append.mp h).elim (fun h => lawin_wsL_law0_r5 w h) (fun h => (List.mem_append.mp h).elim (fun h => lawin_wsL_law0_r6 w h) (fun h => (List.mem_append.mp h).elim (fun h => lawin_wsL_law0_r7 w h) (fun h => (List.mem_append.mp h).elim (fun h => lawin_wsL_law0_r8 w h) (fun h => (List.mem_append.mp h).elim (fun h => lawin_wsL_law0_r9 w h) (fun h => (List.mem_append.mp h).elim (fun h => lawin_wsL_law0_r10 w h) (fun h => (List.mem_append.mp h).elim (fun h => lawin_wsL_law0_r11 w h) (fun h => (List.mem_append.mp h).elim (fun h => lawin_wsL_law0_r12 w h) (fun h => (List.mem_append.mp h).elim (fun h => lawin_wsL_law0_r13 w h) (fun h => (List.mem_append.mp h).elim (fun h => lawin_wsL_law0_r14 w h) (fun h => (List.mem_append.mp h).elim (fun h => lawin_wsL_law0_r15 w h) (fun h => (List.mem_append.mp h).elim (fun h => lawin_wsL_law0_r16 w h) (fun h => (List.mem_append.mp h).elim (fun h => lawin_wsL_law0_r17 w h) (fun h => (List.mem_append.mp h).elim (fun h => lawin_wsL_law0_r18 w h) (fun h => (List.mem_append.mp h).elim (fun h => lawin_wsL_law0_r19 w h) (fun h => (List.mem_append.mp h).elim (fun h => lawin_wsL_law0_r20 w h) (fun h => (List.mem_append.mp h).elim (fun h => lawin_wsL_law0_r21 w h) (fun h => (List.mem_append.mp h).elim (fun h => lawin_wsL_law0_r22 w h) (fun h => (List.mem_append.mp h).elim (fun h => lawin_wsL_law0_r23 w h) (fun h => (List.mem_append.mp h).elim (fun h => lawin_wsL_law0_r24 w h) (fun h => (List.mem_append.mp h).elim (fun h => lawin_wsL_law0_r25 w h) (fun h => (List.mem_append.mp h).elim (fun h => lawin_wsL_law0_r26 w h) (fun h => (List.mem_append.mp h).elim (fun h => lawin_wsL_law0_r27 w h) (fun h => (List.mem_append.mp h).elim (fun h => lawin_wsL_law0_r28 w h) (fun h => (List.mem_append.mp h).elim (fun h => lawin_wsL_law0_r29 w h) (fun h => (List.mem_append.mp h).elim (fun h => lawin_wsL_law0_r30 w h) (fun h => (List.mem_append.mp h).elim (fun h => lawin_wsL_law0_r31 w h) (fun h => (List.mem_append.mp h).elim (fun h => lawin_wsL_law0_r32 w h) (fun h => (List.mem_append.mp h).elim (fun h => lawin_wsL_law0_r33 w h) (fun h => lawin_wsL_law0_r34 w h)))))))))))))))))))))))))))))))))
theorem wsL_law_in0 : ∀ w ∈ wsL_law0, w ∈ lw_tbl := fun w h => (List.mem_append.mp h).elim (fun h => (List.mem_append.mp h).elim (fun h => (List.mem_append.mp h).elim (fun h => (List.mem_append.mp h).elim (fun h => (List.mem_append.mp h).elim (fun h => (List.mem_append.mp h).elim (fun h => (List.mem_append.mp h).elim (fun h => lawin_all w h) (fun h => lawin_wsX40 w h)) (fun h => lawin_wsX50 w h)) (fun h => lawin_wsX20 w h)) (fun h => lawin_wsX30 w h)) (fun h => lawin_wsX10 w h)) (fun h => lawin_wsX00 w h)) (fun h => absurd h List.not_mem_nil)
theorem wsL_law_x0 : ∀ w ∈ (vx_atS RX4 179 "java/lang/IndexOutOfBoundsException" ["java/lang/RuntimeException", "java/lang/Exception"]).filter goodWord, w ∈ lw_tbl := by decide +kernel
theorem wsL_law_x1 : ∀ w ∈ (vx_atS RX4 101 "java/lang/IllegalStateException" ["java/lang/RuntimeException", "java/lang/Exception"]).filter goodWord, w ∈ lw_tbl := by decide +kernel
theorem wsL_law_x2 : ∀ w ∈ (vx_atS RX4 79 "java/lang/IllegalArgumentException" ["java/lang/RuntimeException", "java/lang/Exception"]).filter goodWord, w ∈ lw_tbl := by decide +kernel
theorem wsL_law_in : ∀ w ∈ wsL_law, w ∈ lw_tbl := fun w h => (List.mem_append.mp h).elim (fun h => (List.mem_append.mp h).elim (fun h => (List.mem_append.mp h).elim (fun h => wsL_law_in0 w h) (fun h => wsL_law_x0 w h)) (fun h => wsL_law_x1 w h)) (fun h => wsL_law_x2 w h)
theorem inlX0 : ∀ w ∈ wsX00, w ∈ wsL_law := fun _ h => List.mem_append_left _ (List.mem_append_left _ (List.mem_append_left _ (List.mem_append_left _ (List.mem_append_right _ h))))
theorem inX0 : ∀ w ∈ wsX00, w ∈ lw_tbl := fun w h => wsL_law_in w (inlX0 w h)
theorem inlX1 : ∀ w ∈ wsX10, w ∈ wsL_law := fun _ h => List.mem_append_left _ (List.mem_append_left _ (List.mem_append_left _ (List.mem_append_left _ (List.mem_append_left _ (List.mem_append_right _ h)))))
theorem inX1 : ∀ w ∈ wsX10, w ∈ lw_tbl := fun w h => wsL_law_in w (inlX1 w h)
theorem inlX2 : ∀ w ∈ wsX20, w ∈ wsL_law := fun _ h => List.mem_append_left _ (List.mem_append_left _ (List.mem_append_left _ (List.mem_append_left _ (List.mem_append_left _ (List.mem_append_left _ (List.mem_append_left _ (List.mem_append_right _ h)))))))
theorem inX2 : ∀ w ∈ wsX20, w ∈ lw_tbl := fun w h => wsL_law_in w (inlX2 w h)
theorem inlX3 : ∀ w ∈ wsX30, w ∈ wsL_law := fun _ h => List.mem_append_left _ (List.mem_append_left _ (List.mem_append_left _ (List.mem_append_left _ (List.mem_append_left _ (List.mem_append_left _ (List.mem_append_right _ h))))))
theorem inX3 : ∀ w ∈ wsX30, w ∈ lw_tbl := fun w h => wsL_law_in w (inlX3 w h)
theorem inlX4 : ∀ w ∈ wsX40, w ∈ wsL_law := fun _ h => List.mem_append_left _ (List.mem_append_left _ (List.mem_append_left _ (List.mem_append_left _ (List.mem_append_left _ (List.mem_append_left _ (List.mem_append_left _ (List.mem_append_left _ (List.mem_append_left _ (List.mem_append_right _ h)))))))))
theorem inX4 : ∀ w ∈ wsX40, w ∈ lw_tbl := fun w h => wsL_law_in w (inlX4 w h)
theorem inlX5 : ∀ w ∈ wsX50, w ∈ wsL_law := fun _ h => List.mem_append_left _ (List.mem_append_left _ (List.mem_append_left _ (List.mem_append_left _ (List.mem_append_left _ (List.mem_append_left _ (List.mem_append_left _ (List.mem_append_left _ (List.mem_append_right _ h))))))))
theorem inX5 : ∀ w ∈ wsX50, w ∈ lw_tbl := fun w h => wsL_law_in w (inlX5 w h)
theorem inJ6 : ∀ w ∈ wsJ60, w ∈ lw_tbl := by decide +kernel
theorem inJ0 : ∀ w ∈ wsJ00, w ∈ lw_tbl := by decide +kernel
theorem inJ10 : ∀ w ∈ wsJ100, w ∈ lw_tbl := by decide +kernel



