theorem mem_r {big : List Cond} (ws : List Cond) (ps : List Nat) (hp : ws = ps.filterMap (fun i => big[i]?)) : ∀ w ∈ ws, w ∈ big := by
  intro w hw
  rw [hp] at hw
  obtain ⟨i, -, hi⟩ := List.mem_filterMap.mp hw
  exact List.mem_of_getElem? hi
set_option maxRecDepth 100000 in
theorem wl_in_r1 : ∀ w ∈ wsL_law_r1, w ∈ lw_tbl := mem_r _ [64, 65, 48, 696, 697, 54, 1130, 66, 67, 68, 69, 70, 71, 132, 208, 72, 73, 49, 209, 210, 211, 212, 133, 134] rfl
set_option maxRecDepth 100000 in
theorem wl_in_r2 : ∀ w ∈ wsL_law_r2, w ∈ lw_tbl := mem_r _ [50, 213, 149, 150, 51, 214, 187, 215, 189, 53, 75, 76, 77, 78, 81, 84, 86, 89, 92, 94, 95, 98, 100, 103] rfl
set_option maxRecDepth 100000 in
theorem wl_in_r3 : ∀ w ∈ wsL_law_r3, w ∈ lw_tbl := mem_r _ [106, 136, 137, 138, 139, 141, 152, 153, 154, 155, 156, 52, 183, 158, 159, 160, 161, 162, 163, 164, 165, 166, 167, 191] rfl
set_option maxRecDepth 100000 in
theorem wl_in_r4 : ∀ w ∈ wsL_law_r4, w ∈ lw_tbl := mem_r _ [192, 193, 194, 196, 207, 198, 698, 699, 700, 701, 705, 706, 707, 708, 709, 712, 713, 719, 720, 721, 722, 702, 703, 704] rfl
set_option maxRecDepth 100000 in
theorem wl_in_r5 : ∀ w ∈ wsL_law_r5, w ∈ lw_tbl := mem_r _ [233, 234, 235, 236, 237, 238, 239, 240, 241, 242, 243, 245, 0, 246, 247, 248, 249, 250, 251, 252, 253, 254, 255, 256] rfl
set_option maxRecDepth 100000 in
theorem wl_in_r6 : ∀ w ∈ wsL_law_r6, w ∈ lw_tbl := mem_r _ [257, 258, 760, 761, 762, 763, 785, 764, 765, 766, 767, 768, 769, 770, 771, 773, 11, 774, 775, 776, 777, 779, 12, 780] rfl
set_option maxRecDepth 100000 in
theorem wl_in_r7 : ∀ w ∈ wsL_law_r7, w ∈ lw_tbl := mem_r _ [781, 783, 13, 784, 786, 788, 14, 789, 259, 260, 261, 262, 790, 791, 792, 793, 263, 264, 265, 266, 267, 91, 794, 795] rfl
set_option maxRecDepth 100000 in
theorem wl_in_r8 : ∀ w ∈ wsL_law_r8, w ∈ lw_tbl := mem_r _ [796, 797, 798, 799, 800, 269, 270, 271, 272, 96, 273, 274, 55, 275, 276, 277, 278, 279, 801, 802, 803, 804, 808, 805] rfl
set_option maxRecDepth 100000 in
theorem wl_in_r9 : ∀ w ∈ wsL_law_r9, w ∈ lw_tbl := mem_r _ [806, 807, 809, 811, 15, 812, 813, 814, 815, 280, 281, 282, 283, 284, 285, 286, 287, 288, 289, 290, 291, 292, 293, 294] rfl
set_option maxRecDepth 100000 in
theorem wl_in_r10 : ∀ w ∈ wsL_law_r10, w ∈ lw_tbl := mem_r _ [301, 302, 57, 303, 295, 296, 56, 297, 298, 299, 300, 304, 305, 306, 307, 308, 309, 310, 311, 312, 313, 314, 315, 316] rfl
set_option maxRecDepth 100000 in
theorem wl_in_r11 : ∀ w ∈ wsL_law_r11, w ∈ lw_tbl := mem_r _ [317, 318, 319, 816, 817, 818, 819, 820, 822, 16, 823, 824, 826, 17, 827, 828, 829, 830, 831, 833, 18, 834, 320, 321] rfl
set_option maxRecDepth 100000 in
theorem wl_in_r12 : ∀ w ∈ wsL_law_r12, w ∈ lw_tbl := mem_r _ [322, 323, 324, 325, 326, 327, 835, 836, 837, 838, 839, 840, 328, 329, 330, 331, 99, 841, 842, 843, 844, 332, 333, 334] rfl
set_option maxRecDepth 100000 in
theorem wl_in_r13 : ∀ w ∈ wsL_law_r13, w ∈ lw_tbl := mem_r _ [335, 102, 336, 337, 338, 340, 339, 845, 846, 847, 848, 852, 849, 850, 851, 342, 343, 344, 345, 853, 854, 855, 856, 857] rfl
set_option maxRecDepth 100000 in
theorem wl_in_r14 : ∀ w ∈ wsL_law_r14, w ∈ lw_tbl := mem_r _ [346, 347, 348, 349, 350, 351, 352, 353, 858, 859, 860, 861, 862, 864, 19, 865, 354, 355, 356, 357, 93, 85, 358, 359] rfl
set_option maxRecDepth 100000 in
theorem wl_in_r15 : ∀ w ∈ wsL_law_r15, w ∈ lw_tbl := mem_r _ [360, 361, 362, 363, 364, 366, 1, 367, 368, 369, 370, 866, 867, 868, 869, 870, 871, 872, 874, 20, 875, 876, 878, 21] rfl
set_option maxRecDepth 100000 in
theorem wl_in_r16 : ∀ w ∈ wsL_law_r16, w ∈ lw_tbl := mem_r _ [879, 711, 880, 882, 22, 883, 884, 886, 23, 887, 371, 372, 373, 374, 83, 80, 888, 889, 890, 891, 375, 376, 377, 378] rfl
set_option maxRecDepth 100000 in
theorem wl_in_r17 : ∀ w ∈ wsL_law_r17, w ∈ lw_tbl := mem_r _ [379, 380, 381, 382, 383, 385, 384, 58, 892, 893, 894, 895, 896, 898, 24, 899, 900, 902, 25, 903, 386, 387, 388, 389] rfl
set_option maxRecDepth 100000 in
theorem wl_in_r18 : ∀ w ∈ wsL_law_r18, w ∈ lw_tbl := mem_r _ [390, 391, 392, 393, 904, 905, 906, 907, 912, 908, 910, 26, 911, 394, 395, 396, 397, 913, 914, 915, 916, 398, 399, 400] rfl
set_option maxRecDepth 100000 in
theorem wl_in_r19 : ∀ w ∈ wsL_law_r19, w ∈ lw_tbl := mem_r _ [401, 402, 88, 403, 405, 2, 406, 917, 918, 919, 920, 921, 922, 923, 924, 926, 27, 927, 928, 930, 28, 931, 407, 408] rfl
set_option maxRecDepth 100000 in
theorem wl_in_r20 : ∀ w ∈ wsL_law_r20, w ∈ lw_tbl := mem_r _ [409, 410, 411, 412, 413, 414, 415, 416, 417, 418, 419, 420, 421, 422, 423, 424, 932, 933, 934, 935, 425, 426, 427, 428] rfl
set_option maxRecDepth 100000 in
theorem wl_in_r21 : ∀ w ∈ wsL_law_r21, w ∈ lw_tbl := mem_r _ [429, 430, 936, 937, 938, 939, 940, 431, 432, 433, 434, 435, 941, 942, 943, 944, 945, 947, 29, 948, 436, 437, 438, 439] rfl
set_option maxRecDepth 100000 in
theorem wl_in_r22 : ∀ w ∈ wsL_law_r22, w ∈ lw_tbl := mem_r _ [105, 949, 950, 951, 952, 440, 441, 442, 443, 953, 954, 955, 956, 444, 445, 446, 447, 448, 957, 958, 959, 960, 961, 963] rfl
set_option maxRecDepth 100000 in
theorem wl_in_r23 : ∀ w ∈ wsL_law_r23, w ∈ lw_tbl := mem_r _ [30, 964, 449, 450, 451, 452, 453, 454, 455, 456, 965, 966, 967, 968, 457, 458, 459, 460, 969, 970, 971, 972, 461, 462] rfl
set_option maxRecDepth 100000 in
theorem wl_in_r24 : ∀ w ∈ wsL_law_r24, w ∈ lw_tbl := mem_r _ [463, 464, 143, 465, 466, 467, 468, 973, 974, 975, 976, 977, 714, 469, 470, 471, 472, 978, 979, 980, 981, 473, 474, 475] rfl
set_option maxRecDepth 100000 in
theorem wl_in_r25 : ∀ w ∈ wsL_law_r25, w ∈ lw_tbl := mem_r _ [476, 477, 478, 479, 480, 481, 482, 483, 484, 140, 142, 485, 486, 487, 488, 489, 491, 3, 492, 493, 495, 4, 496, 497] rfl
set_option maxRecDepth 100000 in
theorem wl_in_r26 : ∀ w ∈ wsL_law_r26, w ∈ lw_tbl := mem_r _ [498, 500, 5, 501, 90, 605, 502, 503, 504, 511, 512, 513, 514, 515, 516, 517, 59, 518, 1131, 519, 520, 521, 522, 523] rfl
set_option maxRecDepth 100000 in
theorem wl_in_r27 : ∀ w ∈ wsL_law_r27, w ∈ lw_tbl := mem_r _ [1132, 525, 526, 527, 528, 529, 530, 531, 532, 533, 534, 60, 535, 536, 537, 538, 539, 541, 542, 61, 543, 544, 545, 62] rfl
set_option maxRecDepth 100000 in
theorem wl_in_r28 : ∀ w ∈ wsL_law_r28, w ∈ lw_tbl := mem_r _ [546, 547, 548, 549, 550, 551, 552, 553, 554, 555, 556, 557, 559, 561, 563, 565, 6, 566, 104, 97, 567, 568, 569, 570] rfl
set_option maxRecDepth 100000 in
theorem wl_in_r29 : ∀ w ∈ wsL_law_r29, w ∈ lw_tbl := mem_r _ [571, 573, 574, 575, 576, 577, 578, 579, 581, 7, 582, 101, 583, 584, 585, 586, 587, 588, 589, 590, 592, 594, 8, 595] rfl
set_option maxRecDepth 100000 in
theorem wl_in_r30 : ∀ w ∈ wsL_law_r30, w ∈ lw_tbl := mem_r _ [597, 599, 9, 600, 79, 82, 87, 607, 608, 609, 610, 982, 983, 984, 985, 718, 716, 715, 986, 988, 31, 989, 990, 992] rfl
set_option maxRecDepth 100000 in
theorem wl_in_r31 : ∀ w ∈ wsL_law_r31, w ∈ lw_tbl := mem_r _ [32, 993, 994, 996, 33, 997, 998, 999, 1000, 1001, 1002, 1003, 1004, 1005, 1006, 1007, 1008, 1010, 34, 1011, 1046, 1058, 1059, 717] rfl
set_option maxRecDepth 100000 in
theorem wl_in_r32 : ∀ w ∈ wsL_law_r32, w ∈ lw_tbl := mem_r _ [1012, 1014, 35, 1015, 1022, 1023, 1024, 1025, 1026, 1027, 1016, 1018, 36, 1019, 1020, 1021, 1028, 1030, 37, 1031, 1036, 1045, 1032, 1034] rfl
set_option maxRecDepth 100000 in
theorem wl_in_r33 : ∀ w ∈ wsL_law_r33, w ∈ lw_tbl := mem_r _ [38, 1035, 1037, 1039, 39, 1040, 1041, 1043, 40, 1044, 1047, 1049, 41, 1050, 1051, 1056, 1057, 1052, 1054, 42, 1055, 1060, 1062, 43] rfl
set_option maxRecDepth 100000 in
theorem wl_in_r34 : ∀ w ∈ wsL_law_r34, w ∈ lw_tbl := mem_r _ [1063, 612, 613, 614, 615, 197, 616, 617, 618, 619, 620, 621, 622, 623, 624, 625, 626, 627, 63, 628, 1064, 1065, 1066, 1067] rfl
set_option maxRecDepth 100000 in
theorem wl_in_r35 : ∀ w ∈ wsL_law_r35, w ∈ lw_tbl := mem_r _ [1071, 1068, 1069, 1070, 629, 630, 631, 632, 199, 633, 634, 635, 636, 637, 638, 639, 640, 1072, 1073, 1074, 1075, 1076, 1078, 44] rfl
set_option maxRecDepth 100000 in
theorem wl_in_r36 : ∀ w ∈ wsL_law_r36, w ∈ lw_tbl := mem_r _ [1079, 1080, 1081, 1082, 1083, 641, 642, 643, 644, 195, 649, 645, 646, 647, 648, 1084, 1085, 1086, 1087, 650, 651, 652, 653, 654] rfl
set_option maxRecDepth 100000 in
theorem wl_in_r37 : ∀ w ∈ wsL_law_r37, w ∈ lw_tbl := mem_r _ [1088, 1089, 1090, 1091, 655, 656, 657, 658, 1092, 1093, 1094, 1095, 1096, 1098, 45, 1099, 659, 660, 661, 662, 663, 665, 10, 666] rfl
set_option maxRecDepth 100000 in
theorem wl_in_r38 : ∀ w ∈ wsL_law_r38, w ∈ lw_tbl := mem_r _ [1100, 1101, 1102, 1103, 1104, 1106, 46, 1107, 667, 668, 669, 670, 1108, 1109, 1110, 1111, 710, 671, 672, 673, 674, 1112, 1113, 1114] rfl
set_option maxRecDepth 100000 in
theorem wl_in_r39 : ∀ w ∈ wsL_law_r39, w ∈ lw_tbl := mem_r _ [1115, 675, 676, 677, 678, 1116, 1117, 1118, 1119, 679, 680, 681, 682, 683, 684, 685, 686, 687, 688, 689, 690, 691, 1120, 1121] rfl
set_option maxRecDepth 100000 in
theorem wl_in_r40 : ∀ w ∈ wsL_law_r40, w ∈ lw_tbl := mem_r _ [1122, 1123, 692, 693, 694, 695, 1124, 1125, 1126, 1127, 1128, 1129] rfl
set_option maxRecDepth 100000 in
theorem wl_in_wsX60 : ∀ w ∈ wsX60, w ∈ lw_tbl := mem_r _ [216, 218, 220, 222, 224, 226, 228, 230] rfl
set_option maxRecDepth 100000 in
theorem wl_in_wsX70 : ∀ w ∈ wsX70, w ∈ lw_tbl := mem_r _ [723, 725, 727, 729, 731, 733, 735, 737, 739, 741, 743, 745, 747, 749, 751, 753, 755, 757] rfl
set_option maxRecDepth 100000 in
theorem wl_in_wsX10 : ∀ w ∈ wsX10, w ∈ lw_tbl := mem_r _ [107, 109, 111, 113, 115, 117, 119, 121, 123, 125, 127, 129] rfl
set_option maxRecDepth 100000 in
theorem wl_in_wsX40 : ∀ w ∈ wsX40, w ∈ lw_tbl := mem_r _ [144, 146] rfl
set_option maxRecDepth 100000 in
theorem wl_in_wsX20 : ∀ w ∈ wsX20, w ∈ lw_tbl := mem_r _ [184] rfl
set_option maxRecDepth 100000 in
theorem wl_in_wsX30 : ∀ w ∈ wsX30, w ∈ lw_tbl := mem_r _ [200, 202, 204] rfl
set_option maxRecDepth 100000 in
theorem wl_in_wsX50 : ∀ w ∈ wsX50, w ∈ lw_tbl := mem_r _ [168, 170, 172, 174, 176, 178, 180] rfl
theorem wl_in_a : ∀ w ∈ (wsL_law_r1 ++ (wsL_law_r2 ++ (wsL_law_r3 ++ (wsL_law_r4 ++ (wsL_law_r5 ++ (wsL_law_r6 ++ (wsL_law_r7 ++ (wsL_law_r8 ++ (wsL_law_r9 ++ (wsL_law_r10 ++ (wsL_law_r11 ++ (wsL_law_r12 ++ (wsL_law_r13 ++ (wsL_law_r14 ++ (wsL_law_r15 ++ (wsL_law_r16 ++ (wsL_law_r17 ++ (wsL_law_r18 ++ (wsL_law_r19 ++ (wsL_law_r20 ++ (wsL_law_r21 ++ (wsL_law_r22 ++ (wsL_law_r23 ++ (wsL_law_r24 ++ (wsL_law_r25 ++ (wsL_law_r26 ++ (wsL_law_r27 ++ (wsL_law_r28 ++ (wsL_law_r29 ++ (wsL_law_r30 ++ (wsL_law_r31 ++ (wsL_law_r32 ++ (wsL_law_r33 ++ (wsL_law_r34 ++ (wsL_law_r35 ++ (wsL_law_r36 ++ (wsL_law_r37 ++ (wsL_law_r38 ++ (wsL_law_r39 ++ (wsL_law_r40)))))))))))))))))))))))))))))))))))))))), w ∈ lw_tbl := (fun w h => (List.mem_append.mp h).elim (wl_in_r1 w) ((fun w h => (List.mem_append.mp h).elim (wl_in_r2 w) ((fun w h => (List.mem_append.mp h).elim (wl_in_r3 w) ((fun w h => (List.mem_append.mp h).elim (wl_in_r4 w) ((fun w h => (List.mem_append.mp h).elim (wl_in_r5 w) ((fun w h => (List.mem_append.mp h).elim (wl_in_r6 w) ((fun w h => (List.mem_append.mp h).elim (wl_in_r7 w) ((fun w h => (List.mem_append.mp h).elim (wl_in_r8 w) ((fun w h => (List.mem_append.mp h).elim (wl_in_r9 w) ((fun w h => (List.mem_append.mp h).elim (wl_in_r10 w) ((fun w h => (List.mem_append.mp h).elim (wl_in_r11 w) ((fun w h => (List.mem_append.mp h).elim (wl_in_r12 w) ((fun w h => (List.mem_append.mp h).elim (wl_in_r13 w) ((fun w h => (List.mem_append.mp h).elim (wl_in_r14 w) ((fun w h => (List.mem_append.mp h).elim (wl_in_r15 w) ((fun w h => (List.mem_append.mp h).elim (wl_in_r16 w) ((fun w h => (List.mem_append.mp h).elim (wl_in_r17 w) ((fun w h => (List.mem_append.mp h).elim (wl_in_r18 w) ((fun w h => (List.mem_append.mp h).elim (wl_in_r19 w) ((fun w h => (List.mem_append.mp h).elim (wl_in_r20 w) ((fun w h => (List.mem_append.mp h).elim (wl_in_r21 w) ((fun w h => (List.mem_append.mp h).elim (wl_in_r22 w) ((fun w h => (List.mem_append.mp h).elim (wl_in_r23 w) ((fun w h => (List.mem_append.mp h).elim (wl_in_r24 w) ((fun w h => (List.mem_append.mp h).elim (wl_in_r25 w) ((fun w h => (List.mem_append.mp h).elim (wl_in_r26 w) ((fun w h => (List.mem_append.mp h).elim (wl_in_r27 w) ((fun w h => (List.mem_append.mp h).elim (wl_in_r28 w) ((fun w h => (List.mem_append.mp h).elim (wl_in_r29 w) ((fun w h => (List.mem_append.mp h).elim (wl_in_r30 w) ((fun w h => (List.mem_append.mp h).elim (wl_in_r31 w) ((fun w h => (List.mem_append.mp h).elim (wl_in_r32 w) ((fun w h => (List.mem_append.mp h).elim (wl_in_r33 w) ((fun w h => (List.mem_append.mp h).elim (wl_in_r34 w) ((fun w h => (List.mem_append.mp h).elim (wl_in_r35 w) ((fun w h => (List.mem_append.mp h).elim (wl_in_r36 w) ((fun w h => (List.mem_append.mp h).elim (wl_in_r37 w) ((fun w h => (List.mem_append.mp h).elim (wl_in_r38 w) ((fun w h => (List.mem_append.mp h).elim (wl_in_r39 w) (wl_in_r40 w)) w)) w)) w)) w)) w)) w)) w)) w)) w)) w)) w)) w)) w)) w)) w)) w)) w)) w)) w)) w)) w)) w)) w)) w)) w)) w)) w)) w)) w)) w)) w)) w)) w)) w)) w)) w)) w)) w))
theorem wsL_law_in : ∀ w ∈ wsL_law, w ∈ lw_tbl := (fun w h => (List.mem_append.mp h).elim ((fun w h => (List.mem_append.mp h).elim ((fun w h => (List.mem_append.mp h).elim ((fun w h => (List.mem_append.mp h).elim ((fun w h => (List.mem_append.mp h).elim ((fun w h => (List.mem_append.mp h).elim ((fun w h => (List.mem_append.mp h).elim ((fun w h => (List.mem_append.mp h).elim (wl_in_a w) (wl_in_wsX60 w)) w) (wl_in_wsX70 w)) w) (wl_in_wsX10 w)) w) (wl_in_wsX40 w)) w) (wl_in_wsX20 w)) w) (wl_in_wsX30 w)) w) (wl_in_wsX50 w)) w) (fun h => absurd h List.not_mem_nil))
theorem inX0 : ∀ w ∈ wsX00, w ∈ lw_tbl := by decide +kernel
theorem inlX1 : ∀ w ∈ wsX10, w ∈ wsL_law := fun _ h => List.mem_append_left _ (List.mem_append_left _ (List.mem_append_left _ (List.mem_append_left _ (List.mem_append_left _ (List.mem_append_right _ h)))))
theorem inX1 : ∀ w ∈ wsX10, w ∈ lw_tbl := fun w h => wsL_law_in w (inlX1 w h)
theorem inlX2 : ∀ w ∈ wsX20, w ∈ wsL_law := fun _ h => List.mem_append_left _ (List.mem_append_left _ (List.mem_append_left _ (List.mem_append_right _ h)))
theorem inX2 : ∀ w ∈ wsX20, w ∈ lw_tbl := fun w h => wsL_law_in w (inlX2 w h)
theorem inlX3 : ∀ w ∈ wsX30, w ∈ wsL_law := fun _ h => List.mem_append_left _ (List.mem_append_left _ (List.mem_append_right _ h))
theorem inX3 : ∀ w ∈ wsX30, w ∈ lw_tbl := fun w h => wsL_law_in w (inlX3 w h)
theorem inlX4 : ∀ w ∈ wsX40, w ∈ wsL_law := fun _ h => List.mem_append_left _ (List.mem_append_left _ (List.mem_append_left _ (List.mem_append_left _ (List.mem_append_right _ h))))
theorem inX4 : ∀ w ∈ wsX40, w ∈ lw_tbl := fun w h => wsL_law_in w (inlX4 w h)
theorem inlX5 : ∀ w ∈ wsX50, w ∈ wsL_law := fun _ h => List.mem_append_left _ (List.mem_append_right _ h)
theorem inX5 : ∀ w ∈ wsX50, w ∈ lw_tbl := fun w h => wsL_law_in w (inlX5 w h)
theorem inlX6 : ∀ w ∈ wsX60, w ∈ wsL_law := fun _ h => List.mem_append_left _ (List.mem_append_left _ (List.mem_append_left _ (List.mem_append_left _ (List.mem_append_left _ (List.mem_append_left _ (List.mem_append_left _ (List.mem_append_right _ h)))))))
theorem inX6 : ∀ w ∈ wsX60, w ∈ lw_tbl := fun w h => wsL_law_in w (inlX6 w h)
theorem inlX7 : ∀ w ∈ wsX70, w ∈ wsL_law := fun _ h => List.mem_append_left _ (List.mem_append_left _ (List.mem_append_left _ (List.mem_append_left _ (List.mem_append_left _ (List.mem_append_left _ (List.mem_append_right _ h))))))
theorem inX7 : ∀ w ∈ wsX70, w ∈ lw_tbl := fun w h => wsL_law_in w (inlX7 w h)
theorem inJx145de : ∀ w ∈ wsJx145de0, w ∈ lw_tbl := by decide +kernel
theorem inJx9f9b0 : ∀ w ∈ wsJx9f9b00, w ∈ lw_tbl := by decide +kernel
theorem inJxb160c : ∀ w ∈ wsJxb160c0, w ∈ lw_tbl := by decide +kernel
theorem inJ6 : ∀ w ∈ wsJ60, w ∈ lw_tbl := by decide +kernel
theorem inJ9 : ∀ w ∈ wsJ90, w ∈ lw_tbl := by decide +kernel
theorem inJ0 : ∀ w ∈ wsJ00, w ∈ lw_tbl := by decide +kernel
theorem inJ1 : ∀ w ∈ wsJ10, w ∈ lw_tbl := by decide +kernel
theorem inJ2 : ∀ w ∈ wsJ20, w ∈ lw_tbl := by decide +kernel
theorem inJ10 : ∀ w ∈ wsJ100, w ∈ lw_tbl := by decide +kernel
theorem inJxfd54e : ∀ w ∈ wsJxfd54e0, w ∈ lw_tbl := by decide +kernel
theorem inJx3cf43 : ∀ w ∈ wsJx3cf430, w ∈ lw_tbl := by decide +kernel
theorem inJ7 : ∀ w ∈ wsJ70, w ∈ lw_tbl := by decide +kernel
theorem inJ3 : ∀ w ∈ wsJ30, w ∈ lw_tbl := by decide +kernel
