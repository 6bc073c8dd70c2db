/-! The law's words are the tables'. -/
theorem in_p {big ws : List Cond} (ps : List Nat) (hp : ws = ps.filterMap (fun i => big[i]?)) : ∀ w ∈ ws, w ∈ big := by
  intro w hw
  rw [hp] at hw
  obtain ⟨i, -, hi⟩ := List.mem_filterMap.mp hw
  exact List.mem_of_getElem? hi
theorem in_a {big a b : List Cond} (ha : ∀ w ∈ a, w ∈ big) (hb : ∀ w ∈ b, w ∈ big) : ∀ w ∈ a ++ b, w ∈ big := fun w h => (List.mem_append.mp h).elim (ha w) (hb w)
set_option maxRecDepth 20000 in
theorem li_0 : ∀ w ∈ wsL_law0_r1, w ∈ lw_tbl := in_p [68, 69, 49, 700, 701, 56, 983, 70, 71, 72, 73, 74, 75, 76, 77, 50, 228, 126, 127, 52, 229, 155, 156, 53] (by decide +kernel)
set_option maxRecDepth 20000 in
theorem li_1 : ∀ w ∈ wsL_law0_r2, w ∈ lw_tbl := in_p [230, 176, 177, 54, 231, 232, 233, 234, 78, 79, 80, 81, 125, 89, 94, 97, 101, 111, 82, 83, 84, 85, 107, 86] (by decide +kernel)
set_option maxRecDepth 20000 in
theorem li_2 : ∀ w ∈ wsL_law0_r3, w ∈ lw_tbl := in_p [87, 51, 88, 128, 129, 130, 131, 132, 135, 137, 139, 143, 134, 158, 159, 160, 161, 163, 165, 162, 179, 180, 181, 182] (by decide +kernel)
set_option maxRecDepth 20000 in
theorem li_3 : ∀ w ∈ wsL_law0_r4, w ∈ lw_tbl := in_p [184, 185, 186, 187, 197, 198, 199, 200, 201, 202, 203, 204, 205, 207, 0, 208, 209, 211, 210, 55, 212, 214, 1, 215] (by decide +kernel)
set_option maxRecDepth 20000 in
theorem li_4 : ∀ w ∈ wsL_law0_r5, w ∈ lw_tbl := in_p [216, 217, 218, 219, 141, 220, 221, 222, 223, 224, 226, 2, 227, 702, 703, 704, 705, 792, 711, 712, 713, 714, 715, 716] (by decide +kernel)
set_option maxRecDepth 20000 in
theorem li_5 : ∀ w ∈ wsL_law0_r6, w ∈ lw_tbl := in_p [717, 718, 719, 721, 723, 724, 725, 726, 727, 729, 730, 732, 733, 734, 735, 736, 706, 708, 20, 709, 285, 286, 48, 287] (by decide +kernel)
set_option maxRecDepth 20000 in
theorem li_6 : ∀ w ∈ wsL_law0_r7, w ∈ lw_tbl := in_p [288, 289, 290, 291, 292, 293, 294, 295, 416, 63, 296, 298, 3, 299, 304, 60, 300, 301, 302, 303, 374, 375, 376, 377] (by decide +kernel)
set_option maxRecDepth 20000 in
theorem li_7 : ∀ w ∈ wsL_law0_r8, w ∈ lw_tbl := in_p [378, 379, 380, 381, 61, 397, 398, 399, 400, 62, 432, 433, 434, 435, 436, 437, 438, 439, 440, 441, 442, 443, 444, 445] (by decide +kernel)
set_option maxRecDepth 20000 in
theorem li_8 : ∀ w ∈ wsL_law0_r9, w ∈ lw_tbl := in_p [446, 447, 797, 798, 799, 800, 710, 801, 803, 21, 804, 805, 807, 22, 808, 809, 811, 23, 812, 813, 815, 24, 816, 817] (by decide +kernel)
set_option maxRecDepth 20000 in
theorem li_9 : ∀ w ∈ wsL_law0_r10, w ∈ lw_tbl := in_p [819, 25, 820, 793, 794, 795, 796, 448, 449, 450, 451, 452, 453, 454, 456, 457, 458, 459, 460, 462, 5, 463, 821, 822] (by decide +kernel)
set_option maxRecDepth 20000 in
theorem li_10 : ∀ w ∈ wsL_law0_r11, w ∈ lw_tbl := in_p [823, 824, 728, 825, 827, 26, 828, 731, 829, 831, 27, 832, 833, 835, 28, 836, 837, 839, 29, 840, 464, 465, 466, 467] (by decide +kernel)
set_option maxRecDepth 20000 in
theorem li_11 : ∀ w ∈ wsL_law0_r12, w ∈ lw_tbl := in_p [468, 469, 470, 100, 471, 472, 473, 474, 476, 477, 478, 479, 841, 842, 843, 844, 480, 481, 482, 483, 484, 485, 486, 103] (by decide +kernel)
set_option maxRecDepth 20000 in
theorem li_12 : ∀ w ∈ wsL_law0_r13, w ∈ lw_tbl := in_p [845, 846, 847, 848, 487, 488, 489, 490, 491, 492, 493, 142, 849, 850, 851, 852, 720, 495, 496, 497, 498, 499, 500, 501] (by decide +kernel)
set_option maxRecDepth 20000 in
theorem li_13 : ∀ w ∈ wsL_law0_r14, w ∈ lw_tbl := in_p [136, 502, 504, 6, 505, 507, 853, 854, 855, 856, 857, 859, 30, 860, 508, 509, 510, 511, 512, 513, 514, 515, 516, 517] (by decide +kernel)
set_option maxRecDepth 20000 in
theorem li_14 : ∀ w ∈ wsL_law0_r15, w ∈ lw_tbl := in_p [518, 268, 269, 520, 522, 7, 523, 861, 862, 863, 864, 865, 867, 31, 868, 524, 525, 526, 527, 528, 529, 530, 531, 540] (by decide +kernel)
set_option maxRecDepth 20000 in
theorem li_15 : ∀ w ∈ wsL_law0_r16, w ∈ lw_tbl := in_p [64, 164, 532, 533, 534, 535, 536, 537, 538, 539, 556, 557, 558, 559, 167, 560, 561, 562, 564, 8, 565, 102, 98, 566] (by decide +kernel)
set_option maxRecDepth 20000 in
theorem li_16 : ∀ w ∈ wsL_law0_r17, w ∈ lw_tbl := in_p [567, 569, 9, 570, 571, 572, 573, 574, 576, 10, 577, 578, 580, 11, 581, 582, 584, 12, 585, 586, 588, 13, 589, 109] (by decide +kernel)
set_option maxRecDepth 20000 in
theorem li_17 : ∀ w ∈ wsL_law0_r18, w ∈ lw_tbl := in_p [590, 591, 593, 14, 594, 92, 95, 595, 597, 15, 598, 869, 870, 871, 872, 722, 873, 875, 32, 876, 877, 879, 33, 880] (by decide +kernel)
set_option maxRecDepth 20000 in
theorem li_18 : ∀ w ∈ wsL_law0_r19, w ∈ lw_tbl := in_p [881, 883, 34, 884, 885, 886, 887, 888, 890, 35, 891, 892, 894, 36, 895, 896, 898, 37, 899, 900, 902, 38, 903, 904] (by decide +kernel)
set_option maxRecDepth 20000 in
theorem li_19 : ∀ w ∈ wsL_law0_r20, w ∈ lw_tbl := in_p [906, 39, 907, 908, 910, 40, 911, 599, 600, 601, 602, 603, 604, 605, 168, 166, 912, 913, 914, 915, 607, 608, 609, 610] (by decide +kernel)
set_option maxRecDepth 20000 in
theorem li_20 : ∀ w ∈ wsL_law0_r21, w ∈ lw_tbl := in_p [611, 612, 613, 96, 916, 917, 918, 919, 920, 922, 41, 923, 615, 616, 617, 618, 619, 620, 621, 93, 622, 924, 925, 926] (by decide +kernel)
set_option maxRecDepth 20000 in
theorem li_21 : ∀ w ∈ wsL_law0_r22, w ∈ lw_tbl := in_p [927, 250, 251, 252, 253, 110, 928, 929, 930, 931, 254, 255, 256, 257, 258, 259, 65, 260, 261, 262, 263, 264, 265, 266] (by decide +kernel)
set_option maxRecDepth 20000 in
theorem li_22 : ∀ w ∈ wsL_law0_r23, w ∈ lw_tbl := in_p [108, 90, 99, 270, 271, 272, 273, 274, 275, 276, 277, 278, 105, 279, 280, 66, 281, 282, 283, 284, 932, 933, 934, 935] (by decide +kernel)
set_option maxRecDepth 20000 in
theorem li_23 : ∀ w ∈ wsL_law0_r24, w ∈ lw_tbl := in_p [936, 938, 42, 939, 940, 942, 43, 943, 623, 624, 625, 626, 627, 628, 629, 631, 632, 633, 634, 944, 945, 946, 947, 948] (by decide +kernel)
set_option maxRecDepth 20000 in
theorem li_24 : ∀ w ∈ wsL_law0_r25, w ∈ lw_tbl := in_p [950, 44, 951, 636, 637, 638, 639, 640, 641, 642, 643, 644, 645, 646, 647, 649, 16, 650, 952, 953, 954, 955, 956, 958] (by decide +kernel)
set_option maxRecDepth 20000 in
theorem li_25 : ∀ w ∈ wsL_law0_r26, w ∈ lw_tbl := in_p [45, 959, 651, 652, 653, 654, 655, 656, 657, 658, 659, 660, 661, 106, 662, 663, 664, 665, 666, 667, 668, 669, 670, 672] (by decide +kernel)
set_option maxRecDepth 20000 in
theorem li_26 : ∀ w ∈ wsL_law0_r27, w ∈ lw_tbl := in_p [17, 673, 674, 676, 18, 677, 104, 91, 678, 680, 19, 681, 682, 683, 67, 684, 960, 961, 962, 963, 964, 966, 46, 967] (by decide +kernel)
set_option maxRecDepth 20000 in
theorem li_27 : ∀ w ∈ wsL_law0_r28, w ∈ lw_tbl := in_p [968, 970, 47, 971, 972, 973, 974, 685, 686, 687, 688, 689, 690, 691, 975, 976, 977, 978, 693, 694, 695, 696, 697, 698] (by decide +kernel)
set_option maxRecDepth 20000 in
theorem li_28 : ∀ w ∈ wsL_law0_r29, w ∈ lw_tbl := in_p [699, 138, 140, 979, 980, 981, 982] (by decide +kernel)
set_option maxRecDepth 20000 in
theorem li_29 : ∀ w ∈ wsX00, w ∈ lw_tbl := in_p [188, 190, 192, 194] (by decide +kernel)
set_option maxRecDepth 20000 in
theorem li_30 : ∀ w ∈ wsX10, w ∈ lw_tbl := in_p [144, 146, 148, 150, 152] (by decide +kernel)
set_option maxRecDepth 20000 in
theorem li_31 : ∀ w ∈ wsX20, w ∈ lw_tbl := in_p [169, 171, 173] (by decide +kernel)
set_option maxRecDepth 20000 in
theorem li_32 : ∀ w ∈ wsX40, w ∈ lw_tbl := in_p [112, 114, 116, 118, 120, 122] (by decide +kernel)
set_option maxRecDepth 20000 in
theorem li_33 : ∀ w ∈ wsX50, w ∈ lw_tbl := in_p [235, 237, 239, 241, 243, 245, 247] (by decide +kernel)
set_option maxRecDepth 20000 in
theorem li_34 : ∀ w ∈ wsX60, w ∈ lw_tbl := in_p [737, 739, 741, 743, 745, 747, 749, 751, 753, 755, 757, 759, 761, 763, 765, 767, 769, 771, 773, 775, 777, 779, 781, 783,  785, 787, 789] (by decide +kernel)
set_option maxRecDepth 20000 in
theorem li_35 : ∀ w ∈ (vx_atS RX5 73 "java/lang/UnsupportedOperationException" ["java/lang/RuntimeException", "java/lang/Exception"]).filter goodWord, w ∈ lw_tbl := in_p [57, 326, 335, 341, 344, 346, 327, 328, 74, 75, 329, 334, 342, 362, 316, 363, 318, 364, 320, 330, 332, 322, 358, 359,  361, 322, 427, 428, 429, 352, 352, 353, 354, 355, 355, 356, 357, 358, 426, 417, 419, 340, 420, 421, 422, 423, 325,  324, 424] (by decide +kernel)
set_option maxRecDepth 20000 in
theorem li_36 : ∀ w ∈ (vx_atS RX5 148 "java/util/NoSuchElementException" ["java/lang/RuntimeException", "java/lang/Exception"]).filter goodWord, w ∈ lw_tbl := in_p [57, 326, 335, 341, 344, 346, 327, 328, 74, 75, 329, 334, 342, 362, 316, 363, 318, 364, 320, 330, 332, 322, 358, 359,  361, 322, 349, 350, 351, 352, 352, 353, 354, 355, 355, 356, 357, 358, 348, 305, 313, 314, 315, 317, 319, 321, 325,  324, 323] (by decide +kernel)
set_option maxRecDepth 20000 in
theorem li_37 : ∀ w ∈ (vx_atS RX5 159 "java/lang/IndexOutOfBoundsException" ["java/lang/RuntimeException", "java/lang/Exception"]).filter goodWord, w ∈ lw_tbl := in_p [57, 326, 335, 341, 344, 346, 327, 328, 74, 75, 329, 334, 342, 362, 316, 363, 318, 364, 320, 330, 332, 322, 358, 359,  361, 322, 392, 393, 394, 352, 352, 353, 354, 355, 355, 356, 357, 358, 391, 382, 384, 339, 385, 386, 387, 388, 325,  324, 389] (by decide +kernel)
set_option maxRecDepth 20000 in
theorem li_38 : ∀ w ∈ (vx_atS RX5 84 "java/lang/IllegalArgumentException" ["java/lang/RuntimeException", "java/lang/Exception"]).filter goodWord, w ∈ lw_tbl := in_p [57, 326, 335, 341, 344, 346, 327, 328, 74, 75, 329, 334, 342, 362, 316, 363, 318, 364, 320, 330, 332, 322, 358, 359,  361, 322, 411, 412, 413, 352, 352, 353, 354, 355, 355, 356, 357, 358, 410, 401, 403, 337, 404, 405, 406, 407, 325,  324, 408] (by decide +kernel)
set_option maxRecDepth 20000 in
theorem li_39 : ∀ w ∈ (vx_atS RX5 133 "java/lang/IllegalStateException" ["java/lang/RuntimeException", "java/lang/Exception"]).filter goodWord, w ∈ lw_tbl := in_p [57, 326, 335, 341, 344, 346, 327, 328, 74, 75, 329, 334, 342, 362, 316, 363, 318, 364, 320, 330, 332, 322, 358, 359,  361, 322, 551, 552, 553, 352, 352, 353, 354, 355, 355, 356, 357, 358, 550, 541, 543, 338, 544, 545, 546, 547, 325,  324, 548] (by decide +kernel)
theorem wsL_law_in0 : ∀ w ∈ wsL_law0, w ∈ lw_tbl := (in_a (in_a (in_a (in_a (in_a (in_a (in_a (in_a li_0 (in_a li_1 (in_a li_2 (in_a li_3 (in_a li_4 (in_a li_5 (in_a li_6 (in_a li_7 (in_a li_8 (in_a li_9 (in_a li_10 (in_a li_11 (in_a li_12 (in_a li_13 (in_a li_14 (in_a li_15 (in_a li_16 (in_a li_17 (in_a li_18 (in_a li_19 (in_a li_20 (in_a li_21 (in_a li_22 (in_a li_23 (in_a li_24 (in_a li_25 (in_a li_26 (in_a li_27 li_28)))))))))))))))))))))))))))) li_33) li_34) li_32) li_30) li_31) li_29) (fun _ h => absurd h List.not_mem_nil))
theorem wsL_law_in : ∀ w ∈ wsL_law, w ∈ lw_tbl := (in_a (in_a (in_a (in_a (in_a wsL_law_in0 li_35) li_36) li_37) li_38) li_39)
