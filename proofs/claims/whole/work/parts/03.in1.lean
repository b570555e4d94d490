set_option maxRecDepth 20000 in
theorem wsL_in_1 : ∀ w ∈ wsL_law_r1, w ∈ lw_tbl := fun w h => (goodIn_r wsL_law_r1 [56, 57, 41, 670, 671, 47, 58, 59, 60, 61, 62, 63, 64, 65, 42, 216, 217, 218, 120, 121, 43, 219, 143, 144] (by decide +kernel) (by decide +kernel) w h).1
set_option maxRecDepth 20000 in
theorem wsL_in_4 : ∀ w ∈ wsL_law_r4, w ∈ lw_tbl := fun w h => (goodIn_r wsL_law_r4 [676, 682, 683, 684, 685, 686, 693, 694, 695, 696, 697, 698, 702, 703, 704, 706, 707, 716, 720, 723, 726, 250, 251, 252] (by decide +kernel) (by decide +kernel) w h).1
set_option maxRecDepth 20000 in
theorem wsL_in_7 : ∀ w ∈ wsL_law_r7, w ∈ lw_tbl := fun w h => (goodIn_r wsL_law_r7 [1, 284, 286, 288, 2, 289, 290, 292, 3, 293, 294, 295, 296, 49, 297, 298, 299, 300, 301, 1052, 302, 303, 304, 305] (by decide +kernel) (by decide +kernel) w h).1
set_option maxRecDepth 20000 in
theorem wsL_in_10 : ∀ w ∈ wsL_law_r10, w ∈ lw_tbl := fun w h => (goodIn_r wsL_law_r10 [352, 53, 353, 354, 355, 356, 357, 358, 359, 360, 362, 364, 366, 367, 368, 369, 370, 54, 371, 372, 373, 374, 375, 376] (by decide +kernel) (by decide +kernel) w h).1
set_option maxRecDepth 20000 in
theorem wsL_in_13 : ∀ w ∈ wsL_law_r13, w ∈ lw_tbl := fun w h => (goodIn_r wsL_law_r13 [859, 700, 701, 677, 705, 860, 862, 18, 863, 864, 866, 19, 867, 868, 870, 20, 871, 872, 874, 21, 875, 876, 878, 22] (by decide +kernel) (by decide +kernel) w h).1
set_option maxRecDepth 20000 in
theorem wsL_in_16 : ∀ w ∈ wsL_law_r16, w ∈ lw_tbl := fun w h => (goodIn_r wsL_law_r16 [448, 449, 903, 904, 905, 906, 450, 451, 452, 453, 454, 456, 8, 457, 458, 459, 460, 461, 462, 463, 464, 465, 128, 132] (by decide +kernel) (by decide +kernel) w h).1
set_option maxRecDepth 20000 in
theorem wsL_in_19 : ∀ w ∈ wsL_law_r19, w ∈ lw_tbl := fun w h => (goodIn_r wsL_law_r19 [514, 907, 908, 909, 910, 680, 911, 913, 26, 914, 708, 915, 917, 27, 918, 919, 921, 28, 922, 923, 924, 925, 926, 928] (by decide +kernel) (by decide +kernel) w h).1
set_option maxRecDepth 20000 in
theorem wsL_in_22 : ∀ w ∈ wsL_law_r22, w ∈ lw_tbl := fun w h => (goodIn_r wsL_law_r22 [532, 958, 959, 960, 961, 533, 534, 535, 536, 537, 539, 12, 540, 541, 542, 543, 544, 155, 156, 157, 159, 545, 546, 547] (by decide +kernel) (by decide +kernel) w h).1
set_option maxRecDepth 20000 in
theorem wsL_in_25 : ∀ w ∈ wsL_law_r25, w ∈ lw_tbl := fun w h => (goodIn_r wsL_law_r25 [719, 717, 721, 722, 978, 980, 37, 981, 570, 571, 572, 573, 982, 983, 984, 985, 574, 575, 576, 577, 986, 987, 988, 989] (by decide +kernel) (by decide +kernel) w h).1
set_option maxRecDepth 20000 in
theorem wsL_in_28 : ∀ w ∈ wsL_law_r28, w ∈ lw_tbl := fun w h => (goodIn_r wsL_law_r28 [606, 607, 608, 609, 610, 611, 612, 613, 614, 1010, 1011, 1012, 1013, 1014, 615, 616, 617, 618, 623, 619, 621, 14, 622, 1015] (by decide +kernel) (by decide +kernel) w h).1
set_option maxRecDepth 20000 in
theorem wsL_in_31 : ∀ w ∈ wsL_law_r31, w ∈ lw_tbl := fun w h => (goodIn_r wsL_law_r31 [1041, 1042, 727, 645, 646, 647, 648, 649, 651, 15, 652, 653, 1043, 1044, 1045, 1046, 654, 655, 656, 657, 833, 834, 835, 836] (by decide +kernel) (by decide +kernel) w h).1
set_option maxRecDepth 20000 in
theorem inX0 : ∀ w ∈ wsX00, w ∈ lw_tbl := fun w h => (goodIn_r wsX00 [165, 167, 169, 171, 173, 175, 177, 179] (by decide +kernel) (by decide +kernel) w h).1
set_option maxRecDepth 20000 in
theorem inX3 : ∀ w ∈ wsX30, w ∈ lw_tbl := fun w h => (goodIn_r wsX30 [92, 94, 96, 98, 100, 102, 104, 106, 108, 110, 112, 114, 116] (by decide +kernel) (by decide +kernel) w h).1
set_option maxRecDepth 20000 in
theorem inX6 : ∀ w ∈ wsX60, w ∈ lw_tbl := fun w h => (goodIn_r wsX60 [728, 730, 732, 734, 736, 738, 740, 742, 744, 746, 748, 750, 752, 754, 756, 758, 760, 762, 764, 766, 768, 770, 772, 774, 776, 778, 780, 782, 784, 786, 788, 790, 792, 794, 796, 798, 800, 802, 804, 806, 808, 810, 812, 814, 816, 818, 820, 822, 824, 826, 828, 830] (by decide +kernel) (by decide +kernel) w h).1
