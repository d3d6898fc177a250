/-! The tables hold every word that the law needs -/
theorem mem_r {big ws : List Cond} (ps : List Nat) (hp : ws = ps.filterMap (fun i => big[i]?)) : ∀ w ∈ ws, w ∈ big := by
  intro w hw
  rw [hp] at hw
  obtain ⟨i, -, hi⟩ := List.mem_filterMap.mp hw
  exact List.mem_of_getElem? hi
set_option maxRecDepth 20000 in
theorem lwr_1 : ∀ w ∈ wsL_law_r1, w ∈ lw_tbl := mem_r [81, 82, 62, 677, 678, 70, 995, 83, 84, 85, 86, 87, 88, 115, 196, 89, 90, 65, 197, 198, 116, 117, 66, 199] (by decide +kernel)
set_option maxRecDepth 20000 in
theorem lwr_2 : ∀ w ∈ wsL_law_r2, w ∈ lw_tbl := mem_r [131, 132, 67, 200, 150, 151, 68, 201, 176, 177, 69, 202, 203, 91, 92, 93, 101, 103, 94, 95, 64, 96, 105, 97] (by decide +kernel)
set_option maxRecDepth 20000 in
theorem lwr_3 : ∀ w ∈ wsL_law_r3, w ∈ lw_tbl := mem_r [98, 63, 99, 100, 119, 120, 121, 122, 134, 135, 136, 137, 138, 153, 154, 155, 156, 157, 179, 180, 181, 182, 183, 184] (by decide +kernel)
set_option maxRecDepth 20000 in
theorem lwr_4 : ∀ w ∈ wsL_law_r4, w ∈ lw_tbl := mem_r [679, 680, 681, 682, 685, 686, 687, 688, 813, 689, 692, 693, 695, 696, 697, 698, 699, 700, 701, 705, 706, 707, 708, 709] (by decide +kernel)
set_option maxRecDepth 20000 in
theorem lwr_5 : ∀ w ∈ wsL_law_r5, w ∈ lw_tbl := mem_r [710, 714, 715, 716, 717, 718, 719, 720, 722, 723, 724, 725, 227, 228, 229, 230, 204, 239, 240, 71, 231, 233, 0, 234] (by decide +kernel)
set_option maxRecDepth 20000 in
theorem lwr_6 : ∀ w ∈ wsL_law_r6, w ∈ lw_tbl := mem_r [235, 236, 237, 238, 104, 242, 243, 244, 251, 254, 256, 257, 259, 261, 263, 245, 248, 305, 306, 307, 308, 106, 107, 309] (by decide +kernel)
set_option maxRecDepth 20000 in
theorem lwr_7 : ∀ w ∈ wsL_law_r7, w ∈ lw_tbl := mem_r [311, 1, 312, 313, 315, 2, 316, 317, 319, 3, 320, 360, 325, 73, 326, 361, 321, 322, 72, 323, 324, 327, 328, 329] (by decide +kernel)
set_option maxRecDepth 20000 in
theorem lwr_8 : ∀ w ∈ wsL_law_r8, w ∈ lw_tbl := mem_r [330, 331, 332, 74, 333, 334, 1007, 335, 347, 348, 349, 350, 351, 353, 354, 355, 356, 357, 359, 358, 75, 814, 815, 816] (by decide +kernel)
set_option maxRecDepth 20000 in
theorem lwr_9 : ∀ w ∈ wsL_law_r9, w ∈ lw_tbl := mem_r [817, 684, 683, 362, 363, 364, 365, 368, 4, 369, 123, 370, 818, 819, 820, 821, 822, 690, 826, 823, 824, 825, 371, 372] (by decide +kernel)
set_option maxRecDepth 20000 in
theorem lwr_10 : ∀ w ∈ wsL_law_r10, w ∈ lw_tbl := mem_r [373, 374, 375, 377, 5, 378, 239, 379, 381, 6, 382, 383, 384, 385, 386, 387, 388, 76, 389, 390, 391, 77, 392, 393] (by decide +kernel)
set_option maxRecDepth 20000 in
theorem lwr_11 : ∀ w ∈ wsL_law_r11, w ∈ lw_tbl := mem_r [394, 395, 396, 399, 7, 400, 140, 139, 401, 403, 8, 404, 407, 9, 408, 409, 411, 10, 412, 413, 414, 415, 416, 418] (by decide +kernel)
set_option maxRecDepth 20000 in
theorem lwr_12 : ∀ w ∈ wsL_law_r12, w ∈ lw_tbl := mem_r [11, 419, 420, 422, 12, 423, 426, 13, 427, 428, 429, 78, 431, 432, 433, 435, 438, 440, 434, 827, 828, 829, 830, 694] (by decide +kernel)
set_option maxRecDepth 20000 in
theorem lwr_13 : ∀ w ∈ wsL_law_r13, w ∈ lw_tbl := mem_r [831, 833, 41, 834, 839, 835, 837, 42, 838, 840, 842, 43, 843, 691, 844, 846, 44, 847, 848, 850, 45, 851, 852, 854] (by decide +kernel)
set_option maxRecDepth 20000 in
theorem lwr_14 : ∀ w ∈ wsL_law_r14, w ∈ lw_tbl := mem_r [46, 855, 856, 858, 47, 859, 449, 450, 451, 452, 860, 861, 862, 863, 453, 454, 455, 456, 864, 865, 866, 867, 868, 457] (by decide +kernel)
set_option maxRecDepth 20000 in
theorem lwr_15 : ∀ w ∈ wsL_law_r15, w ∈ lw_tbl := mem_r [458, 459, 460, 869, 870, 871, 872, 461, 462, 463, 464, 465, 467, 873, 874, 875, 876, 877, 878, 879, 880, 881, 882, 883] (by decide +kernel)
set_option maxRecDepth 20000 in
theorem lwr_16 : ∀ w ∈ wsL_law_r16, w ∈ lw_tbl := mem_r [884, 885, 469, 470, 471, 472, 205, 473, 474, 475, 478, 14, 479, 185, 482, 15, 483, 484, 159, 160, 158, 485, 487, 16] (by decide +kernel)
set_option maxRecDepth 20000 in
theorem lwr_17 : ∀ w ∈ wsL_law_r17, w ∈ lw_tbl := mem_r [488, 161, 489, 490, 492, 17, 493, 494, 496, 18, 497, 498, 500, 19, 501, 502, 504, 20, 505, 506, 508, 21, 509, 510] (by decide +kernel)
set_option maxRecDepth 20000 in
theorem lwr_18 : ∀ w ∈ wsL_law_r18, w ∈ lw_tbl := mem_r [511, 512, 886, 887, 888, 889, 711, 713, 890, 892, 48, 893, 702, 703, 704, 894, 895, 896, 897, 898, 899, 900, 901, 903] (by decide +kernel)
set_option maxRecDepth 20000 in
theorem lwr_19 : ∀ w ∈ wsL_law_r19, w ∈ lw_tbl := mem_r [49, 904, 905, 907, 50, 908, 909, 910, 911, 912, 513, 514, 515, 516, 517, 518, 519, 520, 523, 22, 524, 268, 266, 525] (by decide +kernel)
set_option maxRecDepth 20000 in
theorem lwr_20 : ∀ w ∈ wsL_law_r20, w ∈ lw_tbl := mem_r [527, 23, 528, 533, 529, 531, 24, 532, 535, 536, 537, 538, 539, 540, 541, 543, 25, 544, 547, 26, 548, 551, 27, 552] (by decide +kernel)
set_option maxRecDepth 20000 in
theorem lwr_21 : ∀ w ∈ wsL_law_r21, w ∈ lw_tbl := mem_r [555, 553, 554, 558, 28, 559, 913, 914, 915, 916, 712, 917, 919, 51, 920, 921, 923, 52, 924, 925, 927, 53, 928, 560] (by decide +kernel)
set_option maxRecDepth 20000 in
theorem lwr_22 : ∀ w ∈ wsL_law_r22, w ∈ lw_tbl := mem_r [561, 562, 563, 564, 566, 29, 567, 929, 930, 931, 932, 568, 569, 570, 571, 933, 934, 935, 936, 572, 573, 574, 575, 937] (by decide +kernel)
set_option maxRecDepth 20000 in
theorem lwr_23 : ∀ w ∈ wsL_law_r23, w ∈ lw_tbl := mem_r [938, 939, 940, 576, 577, 578, 579, 593, 594, 79, 580, 582, 30, 583, 584, 587, 31, 588, 591, 32, 592, 596, 597, 598] (by decide +kernel)
set_option maxRecDepth 20000 in
theorem lwr_24 : ∀ w ∈ wsL_law_r24, w ∈ lw_tbl := mem_r [599, 601, 603, 941, 942, 943, 944, 721, 945, 947, 54, 948, 612, 613, 614, 615, 616, 617, 619, 33, 620, 621, 623, 34] (by decide +kernel)
set_option maxRecDepth 20000 in
theorem lwr_25 : ∀ w ∈ wsL_law_r25, w ∈ lw_tbl := mem_r [624, 625, 626, 628, 35, 629, 593, 632, 36, 633, 634, 635, 636, 637, 638, 640, 37, 641, 642, 644, 38, 645, 949, 950] (by decide +kernel)
set_option maxRecDepth 20000 in
theorem lwr_26 : ∀ w ∈ wsL_law_r26, w ∈ lw_tbl := mem_r [951, 952, 953, 954, 956, 55, 957, 958, 960, 56, 961, 962, 964, 57, 965, 966, 968, 58, 969, 646, 647, 648, 649, 650] (by decide +kernel)
set_option maxRecDepth 20000 in
theorem lwr_27 : ∀ w ∈ wsL_law_r27, w ∈ lw_tbl := mem_r [652, 39, 653, 970, 971, 972, 973, 654, 655, 656, 657, 664, 658, 659, 80, 660, 661, 662, 663, 665, 667, 40, 668, 974] (by decide +kernel)
set_option maxRecDepth 20000 in
theorem lwr_28 : ∀ w ∈ wsL_law_r28, w ∈ lw_tbl := mem_r [975, 976, 977, 978, 979, 981, 59, 982, 983, 985, 60, 986, 669, 670, 671, 672, 987, 988, 989, 990, 673, 674, 675, 676] (by decide +kernel)
set_option maxRecDepth 20000 in
theorem lwr_29 : ∀ w ∈ wsL_law_r29, w ∈ lw_tbl := mem_r [991, 992, 993, 994] (by decide +kernel)
set_option maxRecDepth 20000 in
theorem lwc_X7 : ∀ w ∈ wsX70, w ∈ lw_tbl := mem_r [206, 208, 210, 212, 214, 216, 218, 220, 222, 224] (by decide +kernel)
set_option maxRecDepth 20000 in
theorem lwc_X8 : ∀ w ∈ wsX80, w ∈ lw_tbl := mem_r [726, 728, 730, 732, 734, 736, 738, 740, 742, 744, 746, 748, 750, 752, 754, 756, 758, 760, 762, 764, 766, 768, 770, 772, 774, 776, 778, 780, 782, 784, 786, 788, 790, 792, 794, 796, 798, 800, 802, 804, 806, 808, 810] (by decide +kernel)
set_option maxRecDepth 20000 in
theorem lwc_Jx4a65c : ∀ w ∈ wsJx4a65c0, w ∈ lw_tbl := mem_r [112, 108, 110] (by decide +kernel)
set_option maxRecDepth 20000 in
theorem lwc_X6 : ∀ w ∈ wsX60, w ∈ lw_tbl := mem_r [126, 128] (by decide +kernel)
set_option maxRecDepth 20000 in
theorem lwc_X4 : ∀ w ∈ wsX40, w ∈ lw_tbl := mem_r [141, 143, 145, 147] (by decide +kernel)
set_option maxRecDepth 20000 in
theorem lwc_X1 : ∀ w ∈ wsX10, w ∈ lw_tbl := mem_r [163, 165, 167, 169, 171, 173] (by decide +kernel)
set_option maxRecDepth 20000 in
theorem lwc_X2 : ∀ w ∈ wsX20, w ∈ lw_tbl := mem_r [187, 189, 191, 193] (by decide +kernel)
set_option maxRecDepth 20000 in
theorem lwc_X5 : ∀ w ∈ wsX50, w ∈ lw_tbl := mem_r [276, 278, 280, 282, 284, 286, 288, 290, 292, 294, 296, 298, 300, 302] (by decide +kernel)
set_option maxRecDepth 20000 in
theorem lwc_X3 : ∀ w ∈ wsX30, w ∈ lw_tbl := mem_r [442, 444, 446] (by decide +kernel)
set_option maxRecDepth 20000 in
theorem lwc_X0 : ∀ w ∈ wsX00, w ∈ lw_tbl := mem_r [605, 607, 609] (by decide +kernel)
theorem lw_all : ∀ w ∈ wsL_law, w ∈ lw_tbl := List.forall_mem_append.mpr ⟨List.forall_mem_append.mpr ⟨List.forall_mem_append.mpr ⟨List.forall_mem_append.mpr ⟨List.forall_mem_append.mpr ⟨List.forall_mem_append.mpr ⟨List.forall_mem_append.mpr ⟨List.forall_mem_append.mpr ⟨List.forall_mem_append.mpr ⟨List.forall_mem_append.mpr ⟨List.forall_mem_append.mpr ⟨List.forall_mem_append.mpr ⟨lwr_1, List.forall_mem_append.mpr ⟨lwr_2, List.forall_mem_append.mpr ⟨lwr_3, List.forall_mem_append.mpr ⟨lwr_4, List.forall_mem_append.mpr ⟨lwr_5, List.forall_mem_append.mpr ⟨lwr_6, List.forall_mem_append.mpr ⟨lwr_7, List.forall_mem_append.mpr ⟨lwr_8, List.forall_mem_append.mpr ⟨lwr_9, List.forall_mem_append.mpr ⟨lwr_10, List.forall_mem_append.mpr ⟨lwr_11, List.forall_mem_append.mpr ⟨lwr_12, List.forall_mem_append.mpr ⟨lwr_13, List.forall_mem_append.mpr ⟨lwr_14, List.forall_mem_append.mpr ⟨lwr_15, List.forall_mem_append.mpr ⟨lwr_16, List.forall_mem_append.mpr ⟨lwr_17, List.forall_mem_append.mpr ⟨lwr_18, List.forall_mem_append.mpr ⟨lwr_19, List.forall_mem_append.mpr ⟨lwr_20, List.forall_mem_append.mpr ⟨lwr_21, List.forall_mem_append.mpr ⟨lwr_22, List.forall_mem_append.mpr ⟨lwr_23, List.forall_mem_append.mpr ⟨lwr_24, List.forall_mem_append.mpr ⟨lwr_25, List.forall_mem_append.mpr ⟨lwr_26, List.forall_mem_append.mpr ⟨lwr_27, List.forall_mem_append.mpr ⟨lwr_28, lwr_29⟩⟩⟩⟩⟩⟩⟩⟩⟩⟩⟩⟩⟩⟩⟩⟩⟩⟩⟩⟩⟩⟩⟩⟩⟩⟩⟩⟩, lwc_X7⟩, lwc_X8⟩, lwc_Jx4a65c⟩, lwc_X6⟩, lwc_X4⟩, lwc_X1⟩, lwc_X2⟩, lwc_X5⟩, lwc_X3⟩, lwc_X0⟩, fun _ h => absurd h List.not_mem_nil⟩
set_option maxRecDepth 20000 in
theorem lw_nw : ∀ w ∈ hs_nw, w ∈ lw_tbl := mem_r [124, 125, 162, 186, 246, 247, 249, 250, 252, 253, 255, 258, 260, 262, 264, 265, 267, 269, 270, 271, 272, 273, 274, 275, 436, 437, 439, 441, 600, 602, 604, 118, 133, 152, 178, 241, 366, 397, 405, 424, 430, 476, 480, 521, 545, 549, 556, 585, 589, 595, 630, 996, 997, 998, 999, 1000, 1001, 1002, 1003, 1004, 1005, 1009, 1010, 1011] (by decide +kernel)
