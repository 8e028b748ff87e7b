theorem mem_pl {big ws : List Cond} (ps : List Nat) (hp : ws = ps.filterMap (fun i => big[i]?)) : ∀ w ∈ ws, w ∈ big := by
  intro w hw
  rw [hp] at hw
  obtain ⟨i, -, hi⟩ := List.mem_filterMap.mp hw
  exact List.mem_of_getElem? hi
set_option maxRecDepth 100000 in
theorem wl_1 : ∀ w ∈ wsL_law_r1, w ∈ lw_tbl := mem_pl [96, 97, 85, 634, 635, 90, 98, 99, 100, 101, 102, 103, 104, 105, 86, 207, 208, 209, 210, 176, 177, 88, 211, 130] (by decide +kernel)
set_option maxRecDepth 100000 in
theorem wl_2 : ∀ w ∈ wsL_law_r2, w ∈ lw_tbl := mem_pl [212, 213, 214, 194, 195, 89, 215, 107, 108, 109, 131, 133, 135, 137, 139, 141, 143, 145, 147, 149, 110, 151, 112, 87] (by decide +kernel)
set_option maxRecDepth 100000 in
theorem wl_3 : ∀ w ∈ wsL_law_r3, w ∈ lw_tbl := mem_pl [114, 115, 116, 117, 119, 121, 179, 180, 181, 182, 183, 185, 197, 198, 199, 200, 201, 636, 637, 638, 639, 640, 641, 642] (by decide +kernel)
set_option maxRecDepth 100000 in
theorem wl_4 : ∀ w ∈ wsL_law_r4, w ∈ lw_tbl := mem_pl [643, 644, 645, 646, 647, 648, 652, 654, 655, 656, 657, 661, 669, 235, 236, 237, 238, 239, 241, 0, 242, 245, 1, 246] (by decide +kernel)
set_option maxRecDepth 100000 in
theorem wl_5 : ∀ w ∈ wsL_law_r5, w ∈ lw_tbl := mem_pl [737, 738, 739, 740, 658, 741, 742, 743, 744, 746, 49, 747, 247, 248, 249, 250, 251, 253, 2, 254, 257, 3, 258, 259] (by decide +kernel)
set_option maxRecDepth 100000 in
theorem wl_6 : ∀ w ∈ wsL_law_r6, w ∈ lw_tbl := mem_pl [261, 4, 262, 263, 264, 265, 272, 273, 274, 91, 275, 999, 276, 278, 5, 279, 280, 281, 282, 283, 284, 285, 286, 287] (by decide +kernel)
set_option maxRecDepth 100000 in
theorem wl_7 : ∀ w ∈ wsL_law_r7, w ∈ lw_tbl := mem_pl [288, 1000, 290, 291, 292, 293, 294, 295, 296, 297, 298, 299, 92, 300, 301, 302, 303, 304, 306, 307, 93, 308, 309, 310] (by decide +kernel)
set_option maxRecDepth 100000 in
theorem wl_8 : ∀ w ∈ wsL_law_r8, w ∈ lw_tbl := mem_pl [94, 311, 312, 313, 314, 315, 316, 317, 318, 319, 320, 321, 322, 324, 326, 328, 330, 6, 331, 332, 334, 7, 335, 338] (by decide +kernel)
set_option maxRecDepth 100000 in
theorem wl_9 : ∀ w ∈ wsL_law_r9, w ∈ lw_tbl := mem_pl [8, 339, 342, 9, 343, 344, 346, 10, 347, 348, 350, 11, 351, 352, 354, 12, 355, 358, 13, 359, 360, 361, 95, 362] (by decide +kernel)
set_option maxRecDepth 100000 in
theorem wl_10 : ∀ w ∈ wsL_law_r10, w ∈ lw_tbl := mem_pl [363, 365, 14, 366, 369, 15, 370, 371, 373, 16, 374, 377, 17, 378, 379, 381, 18, 382, 383, 385, 19, 386, 389, 20] (by decide +kernel)
set_option maxRecDepth 100000 in
theorem wl_11 : ∀ w ∈ wsL_law_r11, w ∈ lw_tbl := mem_pl [390, 393, 21, 394, 395, 397, 22, 398, 399, 401, 23, 402, 748, 749, 750, 751, 659, 660, 752, 754, 50, 755, 756, 758] (by decide +kernel)
set_option maxRecDepth 100000 in
theorem wl_12 : ∀ w ∈ wsL_law_r12, w ∈ lw_tbl := mem_pl [51, 759, 760, 762, 52, 763, 764, 766, 53, 767, 768, 769, 770, 771, 773, 54, 774, 775, 777, 55, 778, 779, 781, 56] (by decide +kernel)
set_option maxRecDepth 100000 in
theorem wl_13 : ∀ w ∈ wsL_law_r13, w ∈ lw_tbl := mem_pl [782, 664, 663, 649, 650, 651, 653, 783, 785, 57, 786, 787, 789, 58, 790, 791, 793, 59, 794, 795, 797, 60, 798, 799] (by decide +kernel)
set_option maxRecDepth 100000 in
theorem wl_14 : ∀ w ∈ wsL_law_r14, w ∈ lw_tbl := mem_pl [801, 61, 802, 803, 805, 62, 806, 807, 809, 63, 810, 811, 813, 64, 814, 405, 406, 407, 408, 823, 824, 825, 826, 410] (by decide +kernel)
set_option maxRecDepth 100000 in
theorem wl_15 : ∀ w ∈ wsL_law_r15, w ∈ lw_tbl := mem_pl [411, 412, 413, 416, 24, 417, 420, 25, 421, 424, 26, 425, 426, 429, 27, 430, 827, 828, 829, 830, 831, 833, 65, 834] (by decide +kernel)
set_option maxRecDepth 100000 in
theorem wl_16 : ∀ w ∈ wsL_law_r16, w ∈ lw_tbl := mem_pl [835, 837, 66, 838, 839, 841, 67, 842, 843, 845, 68, 846, 431, 432, 433, 434, 847, 848, 849, 850, 435, 436, 437, 438] (by decide +kernel)
set_option maxRecDepth 100000 in
theorem wl_17 : ∀ w ∈ wsL_law_r17, w ∈ lw_tbl := mem_pl [851, 852, 853, 854, 439, 440, 441, 442, 855, 856, 857, 858, 444, 445, 446, 447, 859, 860, 861, 862, 448, 449, 450, 451] (by decide +kernel)
set_option maxRecDepth 100000 in
theorem wl_18 : ∀ w ∈ wsL_law_r18, w ∈ lw_tbl := mem_pl [452, 454, 28, 455, 458, 29, 459, 462, 30, 463, 863, 864, 865, 866, 867, 869, 69, 870, 871, 873, 70, 874, 464, 465] (by decide +kernel)
set_option maxRecDepth 100000 in
theorem wl_19 : ∀ w ∈ wsL_law_r19, w ∈ lw_tbl := mem_pl [466, 467, 470, 31, 471, 474, 32, 475, 476, 478, 33, 479, 482, 483, 484, 486, 488, 34, 489, 490, 491, 492, 875, 876] (by decide +kernel)
set_option maxRecDepth 100000 in
theorem wl_20 : ∀ w ∈ wsL_law_r20, w ∈ lw_tbl := mem_pl [877, 878, 879, 881, 71, 882, 883, 885, 72, 886, 493, 494, 495, 496, 497, 499, 35, 500, 501, 504, 36, 505, 506, 509] (by decide +kernel)
set_option maxRecDepth 100000 in
theorem wl_21 : ∀ w ∈ wsL_law_r21, w ∈ lw_tbl := mem_pl [37, 510, 513, 38, 514, 515, 516, 517, 520, 39, 521, 887, 888, 889, 890, 891, 893, 73, 894, 895, 896, 898, 74, 899] (by decide +kernel)
set_option maxRecDepth 100000 in
theorem wl_22 : ∀ w ∈ wsL_law_r22, w ∈ lw_tbl := mem_pl [900, 902, 75, 903, 904, 905, 906, 907, 908, 909, 522, 523, 524, 525, 528, 40, 529, 530, 533, 41, 534, 535, 536, 910] (by decide +kernel)
set_option maxRecDepth 100000 in
theorem wl_23 : ∀ w ∈ wsL_law_r23, w ∈ lw_tbl := mem_pl [911, 912, 913, 914, 916, 76, 917, 918, 920, 77, 921, 922, 923, 925, 78, 926, 927, 537, 538, 539, 540, 541, 544, 42] (by decide +kernel)
set_option maxRecDepth 100000 in
theorem wl_24 : ∀ w ∈ wsL_law_r24, w ∈ lw_tbl := mem_pl [545, 546, 547, 549, 43, 550, 551, 553, 44, 554, 928, 929, 930, 931, 665, 666, 932, 934, 79, 935, 936, 938, 80, 939] (by decide +kernel)
set_option maxRecDepth 100000 in
theorem wl_25 : ∀ w ∈ wsL_law_r25, w ∈ lw_tbl := mem_pl [556, 557, 558, 559, 940, 941, 942, 943, 560, 561, 562, 563, 564, 944, 945, 946, 947, 566, 567, 568, 569, 570, 571, 948] (by decide +kernel)
set_option maxRecDepth 100000 in
theorem wl_26 : ∀ w ∈ wsL_law_r26, w ∈ lw_tbl := mem_pl [949, 950, 951, 952, 953, 954, 955, 572, 573, 574, 575, 956, 957, 958, 959, 576, 577, 578, 579, 580, 960, 961, 962, 963] (by decide +kernel)
set_option maxRecDepth 100000 in
theorem wl_27 : ∀ w ∈ wsL_law_r27, w ∈ lw_tbl := mem_pl [581, 582, 583, 584, 585, 587, 45, 588, 589, 591, 46, 592, 964, 965, 966, 967, 667, 668, 968, 970, 81, 971, 593, 594] (by decide +kernel)
set_option maxRecDepth 100000 in
theorem wl_28 : ∀ w ∈ wsL_law_r28, w ∈ lw_tbl := mem_pl [595, 596, 972, 973, 974, 975, 670, 597, 598, 599, 600, 601, 603, 47, 604, 976, 977, 978, 979, 980, 982, 82, 983, 605] (by decide +kernel)
set_option maxRecDepth 100000 in
theorem wl_29 : ∀ w ∈ wsL_law_r29, w ∈ lw_tbl := mem_pl [606, 607, 608, 609, 610, 611, 612, 613, 614, 615, 616, 617, 984, 985, 986, 987, 671, 988, 990, 83, 991, 992, 993, 994] (by decide +kernel)
set_option maxRecDepth 100000 in
theorem wl_30 : ∀ w ∈ wsL_law_r30, w ∈ lw_tbl := mem_pl [618, 619, 620, 621, 815, 816, 817, 818, 662, 622, 623, 624, 625, 819, 820, 821, 822, 626, 627, 628, 629, 632, 48, 633] (by decide +kernel)
set_option maxRecDepth 100000 in
theorem wl_31 : ∀ w ∈ wsL_law_r31, w ∈ lw_tbl := mem_pl [995, 996, 997, 998] (by decide +kernel)
set_option maxRecDepth 100000 in
theorem wlX0 : ∀ w ∈ wsX00, w ∈ lw_tbl := by decide +kernel
set_option maxRecDepth 100000 in
theorem wlX1 : ∀ w ∈ wsX10, w ∈ lw_tbl := by decide +kernel
set_option maxRecDepth 100000 in
theorem wlX2 : ∀ w ∈ wsX20, w ∈ lw_tbl := by decide +kernel
set_option maxRecDepth 100000 in
theorem wlX3 : ∀ w ∈ wsX30, w ∈ lw_tbl := by decide +kernel
set_option maxRecDepth 100000 in
theorem wlX4 : ∀ w ∈ wsX40, w ∈ lw_tbl := by decide +kernel
set_option maxRecDepth 100000 in
theorem wlX5 : ∀ w ∈ wsX50, w ∈ lw_tbl := by decide +kernel
theorem wsL_law_in : ∀ w ∈ wsL_law, w ∈ lw_tbl := by
  unfold wsL_law
  exact (List.forall_mem_append.mpr ⟨(List.forall_mem_append.mpr ⟨(List.forall_mem_append.mpr ⟨(List.forall_mem_append.mpr ⟨(List.forall_mem_append.mpr ⟨(List.forall_mem_append.mpr ⟨(List.forall_mem_append.mpr ⟨(List.forall_mem_append.mpr ⟨wl_1, List.forall_mem_append.mpr ⟨wl_2, List.forall_mem_append.mpr ⟨wl_3, List.forall_mem_append.mpr ⟨wl_4, List.forall_mem_append.mpr ⟨wl_5, List.forall_mem_append.mpr ⟨wl_6, List.forall_mem_append.mpr ⟨wl_7, List.forall_mem_append.mpr ⟨wl_8, List.forall_mem_append.mpr ⟨wl_9, List.forall_mem_append.mpr ⟨wl_10, List.forall_mem_append.mpr ⟨wl_11, List.forall_mem_append.mpr ⟨wl_12, List.forall_mem_append.mpr ⟨wl_13, List.forall_mem_append.mpr ⟨wl_14, List.forall_mem_append.mpr ⟨wl_15, List.forall_mem_append.mpr ⟨wl_16, List.forall_mem_append.mpr ⟨wl_17, List.forall_mem_append.mpr ⟨wl_18, List.forall_mem_append.mpr ⟨wl_19, List.forall_mem_append.mpr ⟨wl_20, List.forall_mem_append.mpr ⟨wl_21, List.forall_mem_append.mpr ⟨wl_22, List.forall_mem_append.mpr ⟨wl_23, List.forall_mem_append.mpr ⟨wl_24, List.forall_mem_append.mpr ⟨wl_25, List.forall_mem_append.mpr ⟨wl_26, List.forall_mem_append.mpr ⟨wl_27, List.forall_mem_append.mpr ⟨wl_28, List.forall_mem_append.mpr ⟨wl_29, List.forall_mem_append.mpr ⟨wl_30, wl_31⟩⟩⟩⟩⟩⟩⟩⟩⟩⟩⟩⟩⟩⟩⟩⟩⟩⟩⟩⟩⟩⟩⟩⟩⟩⟩⟩⟩⟩⟩), wlX4⟩), wlX5⟩), wlX0⟩), wlX1⟩), wlX2⟩), wlX3⟩), fun _ h => absurd h List.not_mem_nil⟩)
