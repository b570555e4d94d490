set_option maxRecDepth 20000 in
theorem wsL_in_2 : ∀ w ∈ wsL_law_r2, w ∈ lw_tbl := fun w h => (goodIn_r wsL_law_r2 [44, 220, 182, 183, 45, 221, 195, 196, 46, 222, 119, 223, 224, 225, 226, 67, 68, 69, 70, 72, 74, 76, 78, 79] (by decide +kernel) (by decide +kernel) w h).1
set_option maxRecDepth 20000 in
theorem wsL_in_5 : ∀ w ∈ wsL_law_r5, w ∈ lw_tbl := fun w h => (goodIn_r wsL_law_r5 [253, 254, 256, 0, 257, 258, 259, 260, 261, 202, 262, 263, 264, 265, 848, 849, 850, 851, 699, 844, 846, 16, 847, 266] (by decide +kernel) (by decide +kernel) w h).1
set_option maxRecDepth 20000 in
theorem wsL_in_8 : ∀ w ∈ wsL_law_r8, w ∈ lw_tbl := fun w h => (goodIn_r wsL_law_r8 [306, 1051, 308, 309, 310, 311, 312, 313, 314, 315, 316, 317, 50, 318, 322, 323, 51, 324, 325, 326, 327, 319, 320, 321] (by decide +kernel) (by decide +kernel) w h).1
set_option maxRecDepth 20000 in
theorem wsL_in_11 : ∀ w ∈ wsL_law_r11, w ∈ lw_tbl := fun w h => (goodIn_r wsL_law_r11 [377, 378, 379, 380, 382, 4, 383, 386, 388, 5, 389, 393, 394, 395, 396, 398, 399, 400, 402, 6, 403, 404, 405, 406] (by decide +kernel) (by decide +kernel) w h).1
set_option maxRecDepth 20000 in
theorem wsL_in_14 : ∀ w ∈ wsL_law_r14, w ∈ lw_tbl := fun w h => (goodIn_r wsL_law_r14 [879, 880, 882, 23, 883, 884, 886, 24, 887, 678, 425, 426, 427, 428, 429, 430, 431, 432, 433, 435, 436, 437, 888, 889] (by decide +kernel) (by decide +kernel) w h).1
set_option maxRecDepth 20000 in
theorem wsL_in_17 : ∀ w ∈ wsL_law_r17, w ∈ lw_tbl := fun w h => (goodIn_r wsL_law_r17 [466, 467, 468, 469, 471, 472, 473, 474, 475, 476, 477, 478, 479, 480, 55, 481, 482, 483, 484, 485, 487, 9, 488, 489] (by decide +kernel) (by decide +kernel) w h).1
set_option maxRecDepth 20000 in
theorem wsL_in_20 : ∀ w ∈ wsL_law_r20, w ∈ lw_tbl := fun w h => (goodIn_r wsL_law_r20 [29, 929, 930, 932, 30, 933, 934, 936, 31, 937, 938, 940, 32, 941, 942, 944, 33, 945, 515, 516, 517, 518, 946, 947] (by decide +kernel) (by decide +kernel) w h).1
set_option maxRecDepth 20000 in
theorem wsL_in_23 : ∀ w ∈ wsL_law_r23, w ∈ lw_tbl := fun w h => (goodIn_r wsL_law_r23 [548, 549, 550, 551, 552, 553, 161, 163, 554, 555, 556, 558, 13, 559, 560, 561, 562, 563, 564, 565, 566, 567, 568, 569] (by decide +kernel) (by decide +kernel) w h).1
set_option maxRecDepth 20000 in
theorem wsL_in_26 : ∀ w ∈ wsL_law_r26, w ∈ lw_tbl := fun w h => (goodIn_r wsL_law_r26 [578, 579, 580, 581, 990, 991, 992, 993, 582, 583, 584, 585, 994, 995, 996, 997, 586, 587, 588, 589, 998, 999, 1000, 1001] (by decide +kernel) (by decide +kernel) w h).1
set_option maxRecDepth 20000 in
theorem wsL_in_29 : ∀ w ∈ wsL_law_r29, w ∈ lw_tbl := fun w h => (goodIn_r wsL_law_r29 [1016, 1017, 1018, 1023, 1019, 1021, 38, 1022, 624, 625, 626, 627, 628, 629, 630, 631, 632, 633, 1024, 1025, 1026, 1027, 724, 725] (by decide +kernel) (by decide +kernel) w h).1
set_option maxRecDepth 20000 in
theorem wsL_in_32 : ∀ w ∈ wsL_law_r32, w ∈ lw_tbl := fun w h => (goodIn_r wsL_law_r32 [687, 688, 689, 690, 691, 692, 837, 838, 839, 658, 659, 660, 661, 840, 841, 842, 843, 662, 663, 664, 665, 666, 667, 668] (by decide +kernel) (by decide +kernel) w h).1
set_option maxRecDepth 20000 in
theorem inX1 : ∀ w ∈ wsX10, w ∈ lw_tbl := fun w h => (goodIn_r wsX10 [206, 208, 210, 212] (by decide +kernel) (by decide +kernel) w h).1
set_option maxRecDepth 20000 in
theorem inX4 : ∀ w ∈ wsX40, w ∈ lw_tbl := fun w h => (goodIn_r wsX40 [136, 138, 140] (by decide +kernel) (by decide +kernel) w h).1
