theorem goodIn_m {big : List Cond} (ws : List Cond) (ps : List Nat) (hp : ws = ps.filterMap (fun i => big[i]?)) : ∀ w ∈ ws, w ∈ big := by
  intro w hw
  rw [hp] at hw
  obtain ⟨i, -, hi⟩ := List.mem_filterMap.mp hw
  first | exact List.mem_of_getElem? hi | exact List.getElem?_mem hi
set_option maxRecDepth 100000 in
theorem wsL_in_r1 : ∀ w ∈ wsL_law0_r1, w ∈ lw_tbl := fun w h => (goodIn_m wsL_law0_r1 [65, 66, 51, 830, 831, 56, 1150, 67, 68, 69, 70, 71, 72, 73, 74, 52, 190, 191, 192, 193, 123, 194, 124, 125] (by decide +kernel)) w h
set_option maxRecDepth 100000 in
theorem wsL_in_r2 : ∀ w ∈ wsL_law0_r2, w ∈ lw_tbl := fun w h => (goodIn_m wsL_law0_r2 [53, 195, 140, 141, 54, 196, 153, 154, 55, 197, 75, 76, 77, 78, 122, 79, 80, 81, 82, 83, 87, 88, 89, 126] (by decide +kernel)) w h
set_option maxRecDepth 100000 in
theorem wsL_in_r3 : ∀ w ∈ wsL_law0_r3, w ∈ lw_tbl := fun w h => (goodIn_m wsL_law0_r3 [127, 128, 129, 130, 133, 132, 142, 143, 144, 145, 146, 155, 156, 157, 158, 159, 832, 833, 834, 835, 836, 837, 838, 840] (by decide +kernel)) w h
set_option maxRecDepth 100000 in
theorem wsL_in_r4 : ∀ w ∈ wsL_law0_r4, w ∈ lw_tbl := fun w h => (goodIn_m wsL_law0_r4 [841, 842, 848, 468, 469, 50, 470, 471, 472, 473, 474, 475, 476, 486, 60, 558, 61, 477, 478, 479, 480, 481, 482, 483] (by decide +kernel)) w h
set_option maxRecDepth 100000 in
theorem wsL_in_r5 : ∀ w ∈ wsL_law0_r5, w ∈ lw_tbl := fun w h => (goodIn_m wsL_law0_r5 [484, 485, 554, 555, 556, 557, 84, 219, 220, 221, 222, 134, 223, 225, 0, 226, 227, 228, 229, 230, 85, 86, 90, 91] (by decide +kernel)) w h
set_option maxRecDepth 100000 in
theorem wsL_in_r6 : ∀ w ∈ wsL_law0_r6, w ∈ lw_tbl := fun w h => (goodIn_m wsL_law0_r6 [92, 574, 575, 576, 577, 909, 910, 911, 912, 844, 913, 914, 915, 898, 899, 900, 887, 889, 27, 890, 905, 907, 28, 908] (by decide +kernel)) w h
set_option maxRecDepth 100000 in
theorem wsL_in_r7 : ∀ w ∈ wsL_law0_r7, w ∈ lw_tbl := fun w h => (goodIn_m wsL_law0_r7 [839, 891, 892, 893, 916, 918, 29, 919, 879, 880, 881, 882, 578, 579, 580, 581, 582, 583, 584, 585, 587, 62, 586, 316] (by decide +kernel)) w h
set_option maxRecDepth 100000 in
theorem wsL_in_r8 : ∀ w ∈ wsL_law0_r8, w ∈ lw_tbl := fun w h => (goodIn_m wsL_law0_r8 [317, 318, 604, 605, 606, 607, 315, 920, 921, 922, 923, 924, 926, 30, 927, 928, 930, 31, 931, 608, 609, 610, 611, 612] (by decide +kernel)) w h
set_option maxRecDepth 100000 in
theorem wsL_in_r9 : ∀ w ∈ wsL_law0_r9, w ∈ lw_tbl := fun w h => (goodIn_m wsL_law0_r9 [613, 614, 616, 617, 618, 619, 932, 933, 934, 935, 620, 621, 622, 623, 624, 625, 626, 627, 628, 629, 630, 936, 937, 938] (by decide +kernel)) w h
set_option maxRecDepth 100000 in
theorem wsL_in_r10 : ∀ w ∈ wsL_law0_r10, w ∈ lw_tbl := fun w h => (goodIn_m wsL_law0_r10 [939, 940, 942, 32, 943, 631, 632, 633, 634, 635, 636, 637, 638, 639, 640, 641, 643, 644, 645, 646, 944, 945, 946, 947] (by decide +kernel)) w h
set_option maxRecDepth 100000 in
theorem wsL_in_r11 : ∀ w ∈ wsL_law0_r11, w ∈ lw_tbl := fun w h => (goodIn_m wsL_law0_r11 [647, 648, 649, 650, 651, 652, 653, 655, 656, 657, 658, 659, 661, 662, 663, 664, 665, 326, 327, 328, 329, 331, 7, 332] (by decide +kernel)) w h
set_option maxRecDepth 100000 in
theorem wsL_in_r12 : ∀ w ∈ wsL_law0_r12, w ∈ lw_tbl := fun w h => (goodIn_m wsL_law0_r12 [299, 300, 301, 302, 303, 304, 305, 306, 333, 335, 8, 336, 337, 338, 339, 340, 342, 9, 343, 344, 345, 346, 347, 349] (by decide +kernel)) w h
set_option maxRecDepth 100000 in
theorem wsL_in_r13 : ∀ w ∈ wsL_law0_r13, w ∈ lw_tbl := fun w h => (goodIn_m wsL_law0_r13 [10, 350, 351, 353, 11, 354, 355, 948, 949, 950, 951, 952, 954, 33, 955, 956, 957, 958, 959, 960, 961, 962, 963, 964] (by decide +kernel)) w h
set_option maxRecDepth 100000 in
theorem wsL_in_r14 : ∀ w ∈ wsL_law0_r14, w ∈ lw_tbl := fun w h => (goodIn_m wsL_law0_r14 [965, 966, 967, 968, 969, 970, 971, 972, 973, 974, 975, 976, 977, 978, 979, 980, 981, 982, 983, 984, 215, 216, 217, 218] (by decide +kernel)) w h
set_option maxRecDepth 100000 in
theorem wsL_in_r15 : ∀ w ∈ wsL_law0_r15, w ∈ lw_tbl := fun w h => (goodIn_m wsL_law0_r15 [231, 232, 233, 234, 235, 236, 63, 237, 985, 986, 987, 988, 989, 990, 991, 666, 667, 668, 669, 670, 671, 672, 673, 674] (by decide +kernel)) w h
set_option maxRecDepth 100000 in
theorem wsL_in_r16 : ∀ w ∈ wsL_law0_r16, w ∈ lw_tbl := fun w h => (goodIn_m wsL_law0_r16 [675, 677, 678, 679, 433, 434, 435, 436, 437, 404, 405, 406, 992, 993, 994, 995, 681, 682, 683, 684, 685, 686, 687, 689] (by decide +kernel)) w h
set_option maxRecDepth 100000 in
theorem wsL_in_r17 : ∀ w ∈ wsL_law0_r17, w ∈ lw_tbl := fun w h => (goodIn_m wsL_law0_r17 [690, 691, 692, 147, 694, 695, 696, 697, 996, 997, 998, 999, 843, 238, 239, 240, 241, 242, 243, 244, 245, 1000, 1001, 1002] (by decide +kernel)) w h
set_option maxRecDepth 100000 in
theorem wsL_in_r18 : ∀ w ∈ wsL_law0_r18, w ∈ lw_tbl := fun w h => (goodIn_m wsL_law0_r18 [1003, 246, 247, 248, 249, 250, 252, 1, 253, 254, 255, 256, 257, 258, 259, 260, 261, 262, 263, 264, 265, 266, 267, 268] (by decide +kernel)) w h
set_option maxRecDepth 100000 in
theorem wsL_in_r19 : ∀ w ∈ wsL_law0_r19, w ∈ lw_tbl := fun w h => (goodIn_m wsL_law0_r19 [269, 163, 162, 160, 270, 272, 2, 273, 164, 274, 276, 3, 277, 161, 278, 280, 4, 281, 282, 284, 5, 285, 286, 288] (by decide +kernel)) w h
set_option maxRecDepth 100000 in
theorem wsL_in_r20 : ∀ w ∈ wsL_law0_r20, w ∈ lw_tbl := fun w h => (goodIn_m wsL_law0_r20 [6, 289, 165, 166, 167, 168, 1004, 1005, 1006, 1007, 846, 845, 1008, 1010, 34, 1011, 849, 1012, 1014, 35, 1015, 1016, 1018, 36] (by decide +kernel)) w h
set_option maxRecDepth 100000 in
theorem wsL_in_r21 : ∀ w ∈ wsL_law0_r21, w ∈ lw_tbl := fun w h => (goodIn_m wsL_law0_r21 [1019, 1020, 1022, 37, 1023, 847, 1024, 1026, 38, 1027, 1028, 1029, 1030, 1031, 1033, 39, 1034, 1035, 1037, 40, 1038, 698, 699, 700] (by decide +kernel)) w h
set_option maxRecDepth 100000 in
theorem wsL_in_r22 : ∀ w ∈ wsL_law0_r22, w ∈ lw_tbl := fun w h => (goodIn_m wsL_law0_r22 [701, 702, 703, 704, 705, 707, 23, 708, 710, 712, 24, 713, 714, 716, 25, 717, 718, 719, 720, 721, 722, 723, 724, 725] (by decide +kernel)) w h
set_option maxRecDepth 100000 in
theorem wsL_in_r23 : ∀ w ∈ wsL_law0_r23, w ∈ lw_tbl := fun w h => (goodIn_m wsL_law0_r23 [726, 727, 728, 729, 730, 731, 732, 733, 734, 735, 736, 737, 1039, 1040, 1041, 1042, 1043, 1045, 41, 1046, 738, 739, 740, 741] (by decide +kernel)) w h
set_option maxRecDepth 100000 in
theorem wsL_in_r24 : ∀ w ∈ wsL_law0_r24, w ∈ lw_tbl := fun w h => (goodIn_m wsL_law0_r24 [742, 743, 744, 745, 746, 747, 749, 751, 26, 752, 294, 753, 754, 755, 756, 894, 895, 896, 897, 757, 758, 759, 760, 761] (by decide +kernel)) w h
set_option maxRecDepth 100000 in
theorem wsL_in_r25 : ∀ w ∈ wsL_law0_r25, w ∈ lw_tbl := fun w h => (goodIn_m wsL_law0_r25 [762, 763, 901, 902, 903, 904, 765, 766, 767, 768, 769, 770, 771, 382, 383, 384, 385, 773, 774, 775, 776, 883, 884, 885] (by decide +kernel)) w h
set_option maxRecDepth 100000 in
theorem wsL_in_r26 : ∀ w ∈ wsL_law0_r26, w ∈ lw_tbl := fun w h => (goodIn_m wsL_law0_r26 [886, 777, 778, 779, 780, 781, 782, 783, 415, 416, 417, 418, 1047, 1048, 1049, 1050, 1051, 1053, 42, 1054, 785, 786, 787, 788] (by decide +kernel)) w h
set_option maxRecDepth 100000 in
theorem wsL_in_r27 : ∀ w ∈ wsL_law0_r27, w ∈ lw_tbl := fun w h => (goodIn_m wsL_law0_r27 [789, 790, 791, 428, 312, 313, 314, 319, 320, 321, 1055, 1056, 1057, 1058, 1059, 1060, 1061, 793, 794, 795, 796, 797, 798, 799] (by decide +kernel)) w h
set_option maxRecDepth 100000 in
theorem wsL_in_r28 : ∀ w ∈ wsL_law0_r28, w ∈ lw_tbl := fun w h => (goodIn_m wsL_law0_r28 [378, 380, 12, 381, 386, 387, 388, 389, 390, 391, 392, 393, 394, 396, 13, 397, 398, 400, 14, 401, 402, 296, 297, 298] (by decide +kernel)) w h
set_option maxRecDepth 100000 in
theorem wsL_in_r29 : ∀ w ∈ wsL_law0_r29, w ∈ lw_tbl := fun w h => (goodIn_m wsL_law0_r29 [307, 308, 309, 310, 322, 323, 324, 311, 1062, 1063, 1064, 1065, 1066, 1068, 43, 1069, 1070, 1071, 1072, 1073, 1074, 1075, 1076, 1077] (by decide +kernel)) w h
set_option maxRecDepth 100000 in
theorem wsL_in_r30 : ∀ w ∈ wsL_law0_r30, w ∈ lw_tbl := fun w h => (goodIn_m wsL_law0_r30 [1078, 1079, 1080, 1081, 801, 802, 803, 804, 805, 806, 807, 403, 1082, 1083, 1084, 1085, 808, 809, 810, 811, 812, 813, 814, 429] (by decide +kernel)) w h
set_option maxRecDepth 100000 in
theorem wsL_in_r31 : ∀ w ∈ wsL_law0_r31, w ∈ lw_tbl := fun w h => (goodIn_m wsL_law0_r31 [431, 18, 432, 325, 438, 440, 19, 441, 442, 443, 444, 445, 446, 447, 448, 449, 450, 451, 452, 1086, 1087, 1088, 1089, 1090] (by decide +kernel)) w h
set_option maxRecDepth 100000 in
theorem wsL_in_r32 : ∀ w ∈ wsL_law0_r32, w ∈ lw_tbl := fun w h => (goodIn_m wsL_law0_r32 [1092, 44, 1093, 1094, 1096, 45, 1097, 290, 291, 292, 293, 295, 1098, 1099, 1100, 1101, 1102, 1104, 46, 1105, 816, 817, 818, 819] (by decide +kernel)) w h
set_option maxRecDepth 100000 in
theorem wsL_in_r33 : ∀ w ∈ wsL_law0_r33, w ∈ lw_tbl := fun w h => (goodIn_m wsL_law0_r33 [820, 821, 822, 454, 456, 20, 457, 1110, 1111, 1112, 1113, 1114, 1116, 47, 1117, 823, 824, 825, 826, 827, 828, 829, 419, 421] (by decide +kernel)) w h
set_option maxRecDepth 100000 in
theorem wsL_in_r34 : ∀ w ∈ wsL_law0_r34, w ∈ lw_tbl := fun w h => (goodIn_m wsL_law0_r34 [16, 422, 423, 1106, 1107, 1108, 1109, 356, 357, 358, 359, 360, 361, 362, 363, 1118, 1119, 1120, 1121, 1122, 1124, 48, 1125, 364] (by decide +kernel)) w h
set_option maxRecDepth 100000 in
theorem wsL_in_r35 : ∀ w ∈ wsL_law0_r35, w ∈ lw_tbl := fun w h => (goodIn_m wsL_law0_r35 [365, 366, 367, 368, 369, 370, 371, 1126, 1127, 1128, 1129, 1130, 1132, 49, 1133, 372, 373, 374, 375, 376, 377, 407, 409, 15] (by decide +kernel)) w h
set_option maxRecDepth 100000 in
theorem wsL_in_r36 : ∀ w ∈ wsL_law0_r36, w ∈ lw_tbl := fun w h => (goodIn_m wsL_law0_r36 [410, 411, 412, 413, 414, 424, 426, 17, 427, 453, 458, 459, 460, 461, 462, 463, 464, 466, 21, 467, 1134, 1135, 1136, 1137] (by decide +kernel)) w h
set_option maxRecDepth 100000 in
theorem wsL_in_r37 : ∀ w ∈ wsL_law0_r37, w ∈ lw_tbl := fun w h => (goodIn_m wsL_law0_r37 [1138, 1139, 1140, 1141, 64, 1142, 1146, 1148, 1147, 64, 1149, 1143, 1144, 1145] (by decide +kernel)) w h
theorem wsL_in_r : ∀ w ∈ (wsL_law0_r1 ++ (wsL_law0_r2 ++ (wsL_law0_r3 ++ (wsL_law0_r4 ++ (wsL_law0_r5 ++ (wsL_law0_r6 ++ (wsL_law0_r7 ++ (wsL_law0_r8 ++ (wsL_law0_r9 ++ (wsL_law0_r10 ++ (wsL_law0_r11 ++ (wsL_law0_r12 ++ (wsL_law0_r13 ++ (wsL_law0_r14 ++ (wsL_law0_r15 ++ (wsL_law0_r16 ++ (wsL_law0_r17 ++ (wsL_law0_r18 ++ (wsL_law0_r19 ++ (wsL_law0_r20 ++ (wsL_law0_r21 ++ (wsL_law0_r22 ++ (wsL_law0_r23 ++ (wsL_law0_r24 ++ (wsL_law0_r25 ++ (wsL_law0_r26 ++ (wsL_law0_r27 ++ (wsL_law0_r28 ++ (wsL_law0_r29 ++ (wsL_law0_r30 ++ (wsL_law0_r31 ++ (wsL_law0_r32 ++ (wsL_law0_r33 ++ (wsL_law0_r34 ++ (wsL_law0_r35 ++ (wsL_law0_r36 ++ (wsL_law0_r37))))))))))))))))))))))))))))))))))))), w ∈ lw_tbl := fun w h => (List.mem_append.mp h).elim (wsL_in_r1 w) (fun h => (List.mem_append.mp h).elim (wsL_in_r2 w) (fun h => (List.mem_append.mp h).elim (wsL_in_r3 w) (fun h => (List.mem_append.mp h).elim (wsL_in_r4 w) (fun h => (List.mem_append.mp h).elim (wsL_in_r5 w) (fun h => (List.mem_append.mp h).elim (wsL_in_r6 w) (fun h => (List.mem_append.mp h).elim (wsL_in_r7 w) (fun h => (List.mem_append.mp h).elim (wsL_in_r8 w) (fun h => (List.mem_append.mp h).elim (wsL_in_r9 w) (fun h => (List.mem_append.mp h).elim (wsL_in_r10 w) (fun h => (List.mem_append.mp h).elim (wsL_in_r11 w) (fun h => (List.mem_append.mp h).elim (wsL_in_r12 w) (fun h => (List.mem_append.mp h).elim (wsL_in_r13 w) (fun h => (List.mem_append.mp h).elim (wsL_in_r14 w) (fun h => (List.mem_append.mp h).elim (wsL_in_r15 w) (fun h => (List.mem_append.mp h).elim (wsL_in_r16 w) (fun h => (List.mem_append.mp h).elim (wsL_in_r17 w) (fun h => (List.mem_append.mp h).elim (wsL_in_r18 w) (fun h => (List.mem_append.mp h).elim (wsL_in_r19 w) (fun h => (List.mem_append.mp h).elim (wsL_in_r20 w) (fun h => (List.mem_append.mp h).elim (wsL_in_r21 w) (fun h => (List.mem_append.mp h).elim (wsL_in_r22 w) (fun h => (List.mem_append.mp h).elim (wsL_in_r23 w) (fun h => (List.mem_append.mp h).elim (wsL_in_r24 w) (fun h => (List.mem_append.mp h).elim (wsL_in_r25 w) (fun h => (List.mem_append.mp h).elim (wsL_in_r26 w) (fun h => (List.mem_append.mp h).elim (wsL_in_r27 w) (fun h => (List.mem_append.mp h).elim (wsL_in_r28 w) (fun h => (List.mem_append.mp h).elim (wsL_in_r29 w) (fun h => (List.mem_append.mp h).elim (wsL_in_r30 w) (fun h => (List.mem_append.mp h).elim (wsL_in_r31 w) (fun h => (List.mem_append.mp h).elim (wsL_in_r32 w) (fun h => (List.mem_append.mp h).elim (wsL_in_r33 w) (fun h => (List.mem_append.mp h).elim (wsL_in_r34 w) (fun h => (List.mem_append.mp h).elim (wsL_in_r35 w) (fun h => (List.mem_append.mp h).elim (wsL_in_r36 w) (fun h => wsL_in_r37 w h))))))))))))))))))))))))))))))))))))
set_option maxRecDepth 100000 in
theorem wsL_in_wsX40 : ∀ w ∈ wsX40, w ∈ lw_tbl := by decide +kernel
set_option maxRecDepth 100000 in
theorem wsL_in_wsX50 : ∀ w ∈ wsX50, w ∈ lw_tbl := by decide +kernel
set_option maxRecDepth 100000 in
theorem wsL_in_wsX00 : ∀ w ∈ wsX00, w ∈ lw_tbl := by decide +kernel
set_option maxRecDepth 100000 in
theorem wsL_in_wsX20 : ∀ w ∈ wsX20, w ∈ lw_tbl := by decide +kernel
set_option maxRecDepth 100000 in
theorem wsL_in_wsX30 : ∀ w ∈ wsX30, w ∈ lw_tbl := by decide +kernel
set_option maxRecDepth 100000 in
theorem wsL_in_wsX10 : ∀ w ∈ wsX10, w ∈ lw_tbl := by decide +kernel
theorem wsL_law_in0 : ∀ w ∈ wsL_law0, w ∈ lw_tbl := fun w h => (List.mem_append.mp h).elim (fun h => (List.mem_append.mp h).elim (fun h => (List.mem_append.mp h).elim (fun h => (List.mem_append.mp h).elim (fun h => (List.mem_append.mp h).elim (fun h => (List.mem_append.mp h).elim (fun h => (List.mem_append.mp h).elim (fun h => wsL_in_r w h) (fun h => wsL_in_wsX40 w h)) (fun h => wsL_in_wsX50 w h)) (fun h => wsL_in_wsX00 w h)) (fun h => wsL_in_wsX20 w h)) (fun h => wsL_in_wsX30 w h)) (fun h => wsL_in_wsX10 w h)) (fun h => absurd h List.not_mem_nil)
theorem wsL_law_x0 : ∀ w ∈ (vx_atS RX4 65 "java/lang/IllegalArgumentException" ["java/lang/RuntimeException", "java/lang/Exception"]).filter goodWord, w ∈ lw_tbl := by decide +kernel
theorem wsL_law_x1 : ∀ w ∈ (vx_atS RX4 76 "java/lang/IllegalStateException" ["java/lang/RuntimeException", "java/lang/Exception"]).filter goodWord, w ∈ lw_tbl := by decide +kernel
theorem wsL_law_x2 : ∀ w ∈ (vx_atS RX4 92 "java/lang/IndexOutOfBoundsException" ["java/lang/RuntimeException", "java/lang/Exception"]).filter goodWord, w ∈ lw_tbl := by decide +kernel
theorem wsL_law_in : ∀ w ∈ wsL_law, w ∈ lw_tbl := fun w h => (List.mem_append.mp h).elim (fun h => (List.mem_append.mp h).elim (fun h => (List.mem_append.mp h).elim (fun h => wsL_law_in0 w h) (fun h => wsL_law_x0 w h)) (fun h => wsL_law_x1 w h)) (fun h => wsL_law_x2 w h)
theorem inlX0 : ∀ w ∈ wsX00, w ∈ wsL_law := fun _ h => List.mem_append_left _ (List.mem_append_left _ (List.mem_append_left _ (List.mem_append_left _ (List.mem_append_left _ (List.mem_append_left _ (List.mem_append_left _ (List.mem_append_right _ h)))))))
theorem inX0 : ∀ w ∈ wsX00, w ∈ lw_tbl := fun w h => wsL_law_in w (inlX0 w h)
theorem inlX1 : ∀ w ∈ wsX10, w ∈ wsL_law := fun _ h => List.mem_append_left _ (List.mem_append_left _ (List.mem_append_left _ (List.mem_append_left _ (List.mem_append_right _ h))))
theorem inX1 : ∀ w ∈ wsX10, w ∈ lw_tbl := fun w h => wsL_law_in w (inlX1 w h)
theorem inlX2 : ∀ w ∈ wsX20, w ∈ wsL_law := fun _ h => List.mem_append_left _ (List.mem_append_left _ (List.mem_append_left _ (List.mem_append_left _ (List.mem_append_left _ (List.mem_append_left _ (List.mem_append_right _ h))))))
theorem inX2 : ∀ w ∈ wsX20, w ∈ lw_tbl := fun w h => wsL_law_in w (inlX2 w h)
theorem inlX3 : ∀ w ∈ wsX30, w ∈ wsL_law := fun _ h => List.mem_append_left _ (List.mem_append_left _ (List.mem_append_left _ (List.mem_append_left _ (List.mem_append_left _ (List.mem_append_right _ h)))))
theorem inX3 : ∀ w ∈ wsX30, w ∈ lw_tbl := fun w h => wsL_law_in w (inlX3 w h)
theorem inlX4 : ∀ w ∈ wsX40, w ∈ wsL_law := fun _ h => List.mem_append_left _ (List.mem_append_left _ (List.mem_append_left _ (List.mem_append_left _ (List.mem_append_left _ (List.mem_append_left _ (List.mem_append_left _ (List.mem_append_left _ (List.mem_append_left _ (List.mem_append_right _ h)))))))))
theorem inX4 : ∀ w ∈ wsX40, w ∈ lw_tbl := fun w h => wsL_law_in w (inlX4 w h)
theorem inlX5 : ∀ w ∈ wsX50, w ∈ wsL_law := fun _ h => List.mem_append_left _ (List.mem_append_left _ (List.mem_append_left _ (List.mem_append_left _ (List.mem_append_left _ (List.mem_append_left _ (List.mem_append_left _ (List.mem_append_left _ (List.mem_append_right _ h))))))))
theorem inX5 : ∀ w ∈ wsX50, w ∈ lw_tbl := fun w h => wsL_law_in w (inlX5 w h)
theorem inJxe99ae : ∀ w ∈ wsJxe99ae0, w ∈ lw_tbl := by decide +kernel
theorem inJ9 : ∀ w ∈ wsJ90, w ∈ lw_tbl := by decide +kernel
theorem inJ0 : ∀ w ∈ wsJ00, w ∈ lw_tbl := by decide +kernel
