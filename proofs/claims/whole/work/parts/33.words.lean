theorem mem_pl {big ws : List Cond} (ps : List Nat) (hp : ws = ps.filterMap (fun i => big[i]?)) : ∀ w ∈ ws, w ∈ big := by
  intro w hw
  rw [hp] at hw
  obtain ⟨i, -, hi⟩ := List.mem_filterMap.mp hw
  exact List.mem_of_getElem? hi
set_option maxRecDepth 100000 in
theorem wl_1 : ∀ w ∈ wsL_law_r1, w ∈ lw_tbl := mem_pl [97, 98, 86, 639, 640, 91, 99, 100, 101, 102, 103, 104, 105, 106, 87, 208, 209, 210, 211, 177, 178, 89, 212, 131] (by decide +kernel)
set_option maxRecDepth 100000 in
theorem wl_2 : ∀ w ∈ wsL_law_r2, w ∈ lw_tbl := mem_pl [213, 214, 215, 195, 196, 90, 216, 108, 109, 110, 132, 134, 136, 138, 140, 142, 144, 146, 148, 150, 111, 152, 113, 88] (by decide +kernel)
set_option maxRecDepth 100000 in
theorem wl_3 : ∀ w ∈ wsL_law_r3, w ∈ lw_tbl := mem_pl [115, 116, 117, 118, 120, 122, 180, 181, 182, 183, 184, 186, 198, 199, 200, 201, 202, 641, 642, 643, 644, 645, 646, 647] (by decide +kernel)
set_option maxRecDepth 100000 in
theorem wl_4 : ∀ w ∈ wsL_law_r4, w ∈ lw_tbl := mem_pl [648, 649, 650, 651, 652, 653, 657, 659, 660, 661, 662, 666, 674, 236, 237, 238, 239, 240, 242, 0, 243, 246, 1, 247] (by decide +kernel)
set_option maxRecDepth 100000 in
theorem wl_5 : ∀ w ∈ wsL_law_r5, w ∈ lw_tbl := mem_pl [742, 743, 744, 745, 663, 746, 747, 748, 749, 751, 50, 752, 248, 249, 250, 251, 252, 254, 2, 255, 258, 3, 259, 260] (by decide +kernel)
set_option maxRecDepth 100000 in
theorem wl_6 : ∀ w ∈ wsL_law_r6, w ∈ lw_tbl := mem_pl [262, 4, 263, 264, 265, 266, 273, 274, 275, 92, 276, 1004, 277, 279, 5, 280, 281, 282, 283, 284, 285, 286, 287, 288] (by decide +kernel)
set_option maxRecDepth 100000 in
theorem wl_7 : ∀ w ∈ wsL_law_r7, w ∈ lw_tbl := mem_pl [289, 1005, 291, 292, 293, 294, 295, 296, 297, 298, 299, 300, 93, 301, 302, 303, 304, 305, 307, 308, 94, 309, 310, 311] (by decide +kernel)
set_option maxRecDepth 100000 in
theorem wl_8 : ∀ w ∈ wsL_law_r8, w ∈ lw_tbl := mem_pl [95, 312, 313, 314, 315, 316, 317, 318, 319, 320, 321, 322, 323, 325, 327, 329, 331, 6, 332, 333, 335, 7, 336, 339] (by decide +kernel)
set_option maxRecDepth 100000 in
theorem wl_9 : ∀ w ∈ wsL_law_r9, w ∈ lw_tbl := mem_pl [8, 340, 343, 9, 344, 345, 347, 10, 348, 349, 351, 11, 352, 353, 355, 12, 356, 357, 359, 13, 360, 363, 14, 364] (by decide +kernel)
set_option maxRecDepth 100000 in
theorem wl_10 : ∀ w ∈ wsL_law_r10, w ∈ lw_tbl := mem_pl [365, 366, 96, 367, 368, 370, 15, 371, 374, 16, 375, 376, 378, 17, 379, 382, 18, 383, 384, 386, 19, 387, 388, 390] (by decide +kernel)
set_option maxRecDepth 100000 in
theorem wl_11 : ∀ w ∈ wsL_law_r11, w ∈ lw_tbl := mem_pl [20, 391, 394, 21, 395, 398, 22, 399, 400, 402, 23, 403, 404, 406, 24, 407, 753, 754, 755, 756, 664, 665, 757, 759] (by decide +kernel)
set_option maxRecDepth 100000 in
theorem wl_12 : ∀ w ∈ wsL_law_r12, w ∈ lw_tbl := mem_pl [51, 760, 761, 763, 52, 764, 765, 767, 53, 768, 769, 771, 54, 772, 773, 774, 775, 776, 778, 55, 779, 780, 782, 56] (by decide +kernel)
set_option maxRecDepth 100000 in
theorem wl_13 : ∀ w ∈ wsL_law_r13, w ∈ lw_tbl := mem_pl [783, 784, 786, 57, 787, 669, 668, 654, 655, 656, 658, 788, 790, 58, 791, 792, 794, 59, 795, 796, 798, 60, 799, 800] (by decide +kernel)
set_option maxRecDepth 100000 in
theorem wl_14 : ∀ w ∈ wsL_law_r14, w ∈ lw_tbl := mem_pl [802, 61, 803, 804, 806, 62, 807, 808, 810, 63, 811, 812, 814, 64, 815, 816, 818, 65, 819, 409, 410, 411, 412, 828] (by decide +kernel)
set_option maxRecDepth 100000 in
theorem wl_15 : ∀ w ∈ wsL_law_r15, w ∈ lw_tbl := mem_pl [829, 830, 831, 414, 415, 416, 417, 420, 25, 421, 424, 26, 425, 426, 427, 428, 431, 27, 432, 433, 436, 28, 437, 832] (by decide +kernel)
set_option maxRecDepth 100000 in
theorem wl_16 : ∀ w ∈ wsL_law_r16, w ∈ lw_tbl := mem_pl [833, 834, 835, 836, 838, 66, 839, 840, 842, 67, 843, 844, 846, 68, 847, 848, 850, 69, 851, 438, 439, 440, 441, 852] (by decide +kernel)
set_option maxRecDepth 100000 in
theorem wl_17 : ∀ w ∈ wsL_law_r17, w ∈ lw_tbl := mem_pl [853, 854, 855, 442, 443, 444, 445, 856, 857, 858, 859, 446, 447, 448, 449, 860, 861, 862, 863, 451, 452, 453, 454, 864] (by decide +kernel)
set_option maxRecDepth 100000 in
theorem wl_18 : ∀ w ∈ wsL_law_r18, w ∈ lw_tbl := mem_pl [865, 866, 867, 455, 456, 457, 458, 459, 461, 29, 462, 465, 30, 466, 469, 31, 470, 868, 869, 870, 871, 872, 874, 70] (by decide +kernel)
set_option maxRecDepth 100000 in
theorem wl_19 : ∀ w ∈ wsL_law_r19, w ∈ lw_tbl := mem_pl [875, 876, 878, 71, 879, 471, 472, 473, 474, 477, 32, 478, 481, 33, 482, 483, 485, 34, 486, 489, 490, 491, 493, 495] (by decide +kernel)
set_option maxRecDepth 100000 in
theorem wl_20 : ∀ w ∈ wsL_law_r20, w ∈ lw_tbl := mem_pl [35, 496, 497, 880, 881, 882, 883, 884, 886, 72, 887, 888, 890, 73, 891, 498, 499, 500, 501, 502, 504, 36, 505, 506] (by decide +kernel)
set_option maxRecDepth 100000 in
theorem wl_21 : ∀ w ∈ wsL_law_r21, w ∈ lw_tbl := mem_pl [509, 37, 510, 511, 514, 38, 515, 518, 39, 519, 520, 521, 522, 525, 40, 526, 892, 893, 894, 895, 896, 898, 74, 899] (by decide +kernel)
set_option maxRecDepth 100000 in
theorem wl_22 : ∀ w ∈ wsL_law_r22, w ∈ lw_tbl := mem_pl [900, 901, 903, 75, 904, 905, 907, 76, 908, 909, 910, 911, 912, 913, 914, 527, 528, 529, 530, 533, 41, 534, 535, 538] (by decide +kernel)
set_option maxRecDepth 100000 in
theorem wl_23 : ∀ w ∈ wsL_law_r23, w ∈ lw_tbl := mem_pl [42, 539, 540, 541, 915, 916, 917, 918, 919, 921, 77, 922, 923, 925, 78, 926, 927, 928, 930, 79, 931, 932, 542, 543] (by decide +kernel)
set_option maxRecDepth 100000 in
theorem wl_24 : ∀ w ∈ wsL_law_r24, w ∈ lw_tbl := mem_pl [544, 545, 546, 549, 43, 550, 551, 552, 554, 44, 555, 556, 558, 45, 559, 933, 934, 935, 936, 670, 671, 937, 939, 80] (by decide +kernel)
set_option maxRecDepth 100000 in
theorem wl_25 : ∀ w ∈ wsL_law_r25, w ∈ lw_tbl := mem_pl [940, 941, 943, 81, 944, 561, 562, 563, 564, 945, 946, 947, 948, 565, 566, 567, 568, 569, 949, 950, 951, 952, 571, 572] (by decide +kernel)
set_option maxRecDepth 100000 in
theorem wl_26 : ∀ w ∈ wsL_law_r26, w ∈ lw_tbl := mem_pl [573, 574, 575, 576, 953, 954, 955, 956, 957, 958, 959, 960, 577, 578, 579, 580, 961, 962, 963, 964, 581, 582, 583, 584] (by decide +kernel)
set_option maxRecDepth 100000 in
theorem wl_27 : ∀ w ∈ wsL_law_r27, w ∈ lw_tbl := mem_pl [585, 965, 966, 967, 968, 586, 587, 588, 589, 590, 592, 46, 593, 594, 596, 47, 597, 969, 970, 971, 972, 672, 673, 973] (by decide +kernel)
set_option maxRecDepth 100000 in
theorem wl_28 : ∀ w ∈ wsL_law_r28, w ∈ lw_tbl := mem_pl [975, 82, 976, 598, 599, 600, 601, 977, 978, 979, 980, 675, 602, 603, 604, 605, 606, 608, 48, 609, 981, 982, 983, 984] (by decide +kernel)
set_option maxRecDepth 100000 in
theorem wl_29 : ∀ w ∈ wsL_law_r29, w ∈ lw_tbl := mem_pl [985, 987, 83, 988, 610, 611, 612, 613, 614, 615, 616, 617, 618, 619, 620, 621, 622, 989, 990, 991, 992, 676, 993, 995] (by decide +kernel)
set_option maxRecDepth 100000 in
theorem wl_30 : ∀ w ∈ wsL_law_r30, w ∈ lw_tbl := mem_pl [84, 996, 997, 998, 999, 623, 624, 625, 626, 820, 821, 822, 823, 667, 627, 628, 629, 630, 824, 825, 826, 827, 631, 632] (by decide +kernel)
set_option maxRecDepth 100000 in
theorem wl_31 : ∀ w ∈ wsL_law_r31, w ∈ lw_tbl := mem_pl [633, 634, 637, 49, 638, 1000, 1001, 1002, 1003] (by decide +kernel)
set_option maxRecDepth 100000 in
theorem wlX0 : ∀ w ∈ wsX00, w ∈ lw_tbl := by decide +kernel
set_option maxRecDepth 100000 in
theorem wlX1 : ∀ w ∈ wsX10, w ∈ lw_tbl := by decide +kernel
set_option maxRecDepth 100000 in
theorem wlX2 : ∀ w ∈ wsX20, w ∈ lw_tbl := by decide +kernel
set_option maxRecDepth 100000 in
theorem wlX3 : ∀ w ∈ wsX30, w ∈ lw_tbl := by decide +kernel
set_option maxRecDepth 100000 in
theorem wlX4 : ∀ w ∈ wsX40, w ∈ lw_tbl := by decide +kernel
set_option maxRecDepth 100000 in
theorem wlX5 : ∀ w ∈ wsX50, w ∈ lw_tbl := by decide +kernel
theorem wsL_law_in : ∀ w ∈ wsL_law, w ∈ lw_tbl := by
  unfold wsL_law
  exact (List.forall_mem_append.mpr ⟨(List.forall_mem_append.mpr ⟨(List.forall_mem_append.mpr ⟨(List.forall_mem_append.mpr ⟨(List.forall_mem_append.mpr ⟨(List.forall_mem_append.mpr ⟨(List.forall_mem_append.mpr ⟨(List.forall_mem_append.mpr ⟨wl_1, List.forall_mem_append.mpr ⟨wl_2, List.forall_mem_append.mpr ⟨wl_3, List.forall_mem_append.mpr ⟨wl_4, List.forall_mem_append.mpr ⟨wl_5, List.forall_mem_append.mpr ⟨wl_6, List.forall_mem_append.mpr ⟨wl_7, List.forall_mem_append.mpr ⟨wl_8, List.forall_mem_append.mpr ⟨wl_9, List.forall_mem_append.mpr ⟨wl_10, List.forall_mem_append.mpr ⟨wl_11, List.forall_mem_append.mpr ⟨wl_12, List.forall_mem_append.mpr ⟨wl_13, List.forall_mem_append.mpr ⟨wl_14, List.forall_mem_append.mpr ⟨wl_15, List.forall_mem_append.mpr ⟨wl_16, List.forall_mem_append.mpr ⟨wl_17, List.forall_mem_append.mpr ⟨wl_18, List.forall_mem_append.mpr ⟨wl_19, List.forall_mem_append.mpr ⟨wl_20, List.forall_mem_append.mpr ⟨wl_21, List.forall_mem_append.mpr ⟨wl_22, List.forall_mem_append.mpr ⟨wl_23, List.forall_mem_append.mpr ⟨wl_24, List.forall_mem_append.mpr ⟨wl_25, List.forall_mem_append.mpr ⟨wl_26, List.forall_mem_append.mpr ⟨wl_27, List.forall_mem_append.mpr ⟨wl_28, List.forall_mem_append.mpr ⟨wl_29, List.forall_mem_append.mpr ⟨wl_30, wl_31⟩⟩⟩⟩⟩⟩⟩⟩⟩⟩⟩⟩⟩⟩⟩⟩⟩⟩⟩⟩⟩⟩⟩⟩⟩⟩⟩⟩⟩⟩), wlX4⟩), wlX5⟩), wlX0⟩), wlX1⟩), wlX2⟩), wlX3⟩), fun _ h => absurd h List.not_mem_nil⟩)
