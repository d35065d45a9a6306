theorem mem_r {big : List Cond} (ws : List Cond) (ps : List Nat) (hp : ws = ps.filterMap (fun i => big[i]?)) : ∀ w ∈ ws, w ∈ big := by
  intro w hw
  rw [hp] at hw
  obtain ⟨i, -, hi⟩ := List.mem_filterMap.mp hw
  exact List.mem_of_getElem? hi
set_option maxRecDepth 20000 in
theorem wsL_law0_r1_in : ∀ w ∈ wsL_law0_r1, w ∈ lw_tbl := mem_r _ [78, 79, 64, 790, 791, 71, 942, 80, 81, 82, 83, 84, 85, 86, 87, 65, 224, 225, 226, 107, 108, 66, 227, 128] rfl
set_option maxRecDepth 20000 in
theorem wsL_law0_r2_in : ∀ w ∈ wsL_law0_r2, w ∈ lw_tbl := mem_r _ [129, 67, 228, 151, 152, 68, 229, 230, 194, 195, 69, 231, 209, 210, 70, 232, 88, 89, 90, 91, 92, 94, 95, 106] rfl
set_option maxRecDepth 20000 in
theorem wsL_law0_r3_in : ∀ w ∈ wsL_law0_r3, w ∈ lw_tbl := mem_r _ [96, 110, 111, 112, 113, 115, 114, 131, 132, 133, 134, 136, 138, 135, 153, 154, 155, 156, 157, 165, 167, 159, 160, 161] rfl
set_option maxRecDepth 20000 in
theorem wsL_law0_r4_in : ∀ w ∈ wsL_law0_r4, w ∈ lw_tbl := mem_r _ [162, 163, 164, 158, 196, 197, 198, 199, 200, 203, 202, 201, 211, 212, 213, 214, 215, 218, 217, 216, 792, 793, 794, 795] rfl
set_option maxRecDepth 20000 in
theorem wsL_law0_r5_in : ∀ w ∈ wsL_law0_r5, w ∈ lw_tbl := mem_r _ [796, 797, 798, 799, 800, 801, 802, 803, 804, 941, 805, 806, 811, 812, 813, 814, 815, 816, 817, 818, 819, 820, 822, 823] rfl
set_option maxRecDepth 20000 in
theorem wsL_law0_r6_in : ∀ w ∈ wsL_law0_r6, w ∈ lw_tbl := mem_r _ [824, 825, 826, 827, 828, 829, 831, 832, 833, 834, 835, 836, 837, 838, 840, 841, 842, 300, 301, 63, 302, 303, 304, 305] rfl
set_option maxRecDepth 20000 in
theorem wsL_law0_r7_in : ∀ w ∈ wsL_law0_r7, w ∈ lw_tbl := mem_r _ [306, 307, 308, 309, 75, 380, 76, 377, 378, 379, 396, 397, 398, 399, 268, 269, 270, 400, 401, 402, 403, 947, 948, 949] rfl
set_option maxRecDepth 20000 in
theorem wsL_law0_r8_in : ∀ w ∈ wsL_law0_r8, w ∈ lw_tbl := mem_r _ [950, 951, 952, 953, 954, 956, 35, 957, 843, 943, 944, 945, 946, 404, 405, 406, 407, 408, 409, 410, 411, 412, 413, 271] rfl
set_option maxRecDepth 20000 in
theorem wsL_law0_r9_in : ∀ w ∈ wsL_law0_r9, w ∈ lw_tbl := mem_r _ [272, 273, 274, 958, 959, 960, 961, 962, 963, 964, 418, 419, 420, 421, 422, 423, 424, 425, 431, 77, 426, 427, 428, 965] rfl
set_option maxRecDepth 20000 in
theorem wsL_law0_r10_in : ∀ w ∈ wsL_law0_r10, w ∈ lw_tbl := mem_r _ [966, 967, 968, 447, 448, 449, 450, 451, 452, 453, 455, 456, 457, 458, 295, 459, 969, 970, 971, 972, 460, 461, 462, 463] rfl
set_option maxRecDepth 20000 in
theorem wsL_law0_r11_in : ∀ w ∈ wsL_law0_r11, w ∈ lw_tbl := mem_r _ [464, 465, 466, 468, 469, 470, 471, 291, 292, 293, 294, 973, 974, 975, 976, 252, 253, 254, 255, 977, 978, 979, 980, 808] rfl
set_option maxRecDepth 20000 in
theorem wsL_law0_r12_in : ∀ w ∈ wsL_law0_r12, w ∈ lw_tbl := mem_r _ [472, 473, 474, 475, 476, 477, 478, 981, 982, 983, 984, 809, 256, 257, 258, 259, 260, 261, 262, 263, 264, 265, 266, 267] rfl
set_option maxRecDepth 20000 in
theorem wsL_law0_r13_in : ∀ w ∈ wsL_law0_r13, w ∈ lw_tbl := mem_r _ [985, 986, 987, 988, 821, 275, 276, 277, 278, 989, 990, 991, 992, 480, 481, 482, 483, 484, 485, 486, 487, 488, 489, 491] rfl
set_option maxRecDepth 20000 in
theorem wsL_law0_r14_in : ∀ w ∈ wsL_law0_r14, w ∈ lw_tbl := mem_r _ [492, 493, 494, 495, 496, 497, 169, 498, 499, 501, 1, 502, 503, 504, 505, 507, 2, 550, 552, 11, 553, 554, 556, 12] rfl
set_option maxRecDepth 20000 in
theorem wsL_law0_r15_in : ∀ w ∈ wsL_law0_r15, w ∈ lw_tbl := mem_r _ [538, 540, 8, 541, 509, 511, 3, 566, 568, 14, 569, 570, 572, 15, 573, 172, 546, 548, 10, 549, 574, 576, 16, 577] rfl
set_option maxRecDepth 20000 in
theorem wsL_law0_r16_in : ∀ w ∈ wsL_law0_r16, w ∈ lw_tbl := mem_r _ [578, 579, 580, 581, 582, 559, 560, 561, 583, 585, 17, 586, 513, 514, 515, 516, 517, 587, 589, 18, 590, 591, 592, 593] rfl
set_option maxRecDepth 20000 in
theorem wsL_law0_r17_in : ∀ w ∈ wsL_law0_r17, w ∈ lw_tbl := mem_r _ [594, 141, 595, 596, 597, 598, 542, 544, 9, 545, 530, 532, 6, 533, 534, 536, 7, 537, 599, 601, 19, 602, 603, 604] rfl
set_option maxRecDepth 20000 in
theorem wsL_law0_r18_in : ∀ w ∈ wsL_law0_r18, w ∈ lw_tbl := mem_r _ [605, 606, 607, 609, 20, 610, 611, 612, 613, 614, 615, 616, 617, 618, 619, 620, 120, 621, 623, 21, 624, 625, 626, 508] rfl
set_option maxRecDepth 20000 in
theorem wsL_law0_r19_in : ∀ w ∈ wsL_law0_r19, w ∈ lw_tbl := mem_r _ [565, 522, 524, 5, 521, 512, 518, 520, 4, 525, 528, 529, 557, 558, 562, 564, 13, 627, 629, 22, 630, 631, 993, 994] rfl
set_option maxRecDepth 20000 in
theorem wsL_law0_r20_in : ∀ w ∈ wsL_law0_r20, w ∈ lw_tbl := mem_r _ [995, 996, 839, 997, 998, 999, 1000, 1002, 36, 1003, 830, 1004, 1006, 37, 1007, 1008, 1010, 38, 1011, 1012, 1013, 1014, 1015, 1017] rfl
set_option maxRecDepth 20000 in
theorem wsL_law0_r21_in : ∀ w ∈ wsL_law0_r21, w ∈ lw_tbl := mem_r _ [39, 1018, 1019, 1021, 40, 1022, 1023, 1025, 41, 1026, 1027, 1028, 1029, 1030, 1031, 1033, 42, 1034, 1035, 1037, 43, 1038, 810, 1039] rfl
set_option maxRecDepth 20000 in
theorem wsL_law0_r22_in : ∀ w ∈ wsL_law0_r22, w ∈ lw_tbl := mem_r _ [1041, 44, 1042, 1043, 1045, 45, 1046, 1047, 1049, 46, 1050, 1051, 1053, 47, 1054, 1055, 1057, 48, 1058, 1059, 1060, 1061, 1063, 49] rfl
set_option maxRecDepth 20000 in
theorem wsL_law0_r23_in : ∀ w ∈ wsL_law0_r23, w ∈ lw_tbl := mem_r _ [1064, 1065, 1067, 50, 1068, 1069, 1071, 51, 1072, 1073, 1075, 52, 1076, 1077, 1079, 53, 1080, 807, 1081, 1083, 54, 1084, 632, 633] rfl
set_option maxRecDepth 20000 in
theorem wsL_law0_r24_in : ∀ w ∈ wsL_law0_r24, w ∈ lw_tbl := mem_r _ [634, 635, 636, 637, 638, 1085, 1086, 1087, 1088, 1089, 1091, 55, 1092, 639, 640, 641, 642, 643, 644, 645, 1093, 1094, 1095, 1096] rfl
set_option maxRecDepth 20000 in
theorem wsL_law0_r25_in : ∀ w ∈ wsL_law0_r25, w ∈ lw_tbl := mem_r _ [646, 647, 648, 649, 650, 651, 652, 1097, 1098, 1099, 1100, 653, 654, 655, 656, 657, 658, 659, 661, 662, 663, 664, 1101, 1102] rfl
set_option maxRecDepth 20000 in
theorem wsL_law0_r26_in : ∀ w ∈ wsL_law0_r26, w ∈ lw_tbl := mem_r _ [1103, 1104, 279, 280, 281, 282, 1105, 1106, 1107, 1108, 283, 284, 285, 286, 287, 288, 289, 290, 1109, 1110, 1111, 1112, 296, 297] rfl
set_option maxRecDepth 20000 in
theorem wsL_law0_r27_in : ∀ w ∈ wsL_law0_r27, w ∈ lw_tbl := mem_r _ [298, 299, 1113, 1114, 1115, 1116, 665, 666, 667, 668, 669, 670, 671, 672, 673, 674, 675, 676, 678, 23, 679, 680, 681, 682] rfl
set_option maxRecDepth 20000 in
theorem wsL_law0_r28_in : ∀ w ∈ wsL_law0_r28, w ∈ lw_tbl := mem_r _ [683, 684, 685, 686, 687, 688, 1117, 1118, 1119, 1120, 1121, 1123, 56, 1124, 1125, 1127, 57, 1128, 1129, 1130, 1131, 689, 690, 691] rfl
set_option maxRecDepth 20000 in
theorem wsL_law0_r29_in : ∀ w ∈ wsL_law0_r29, w ∈ lw_tbl := mem_r _ [692, 693, 694, 695, 697, 698, 699, 700, 701, 702, 703, 704, 705, 1132, 1133, 1134, 1135, 706, 707, 708, 709, 710, 711, 712] rfl
set_option maxRecDepth 20000 in
theorem wsL_law0_r30_in : ∀ w ∈ wsL_law0_r30, w ∈ lw_tbl := mem_r _ [713, 714, 715, 716, 717, 719, 24, 720, 1136, 1137, 1138, 1139, 1140, 1142, 58, 1143, 721, 722, 723, 724, 725, 726, 727, 730] rfl
set_option maxRecDepth 20000 in
theorem wsL_law0_r31_in : ∀ w ∈ wsL_law0_r31, w ∈ lw_tbl := mem_r _ [731, 732, 733, 734, 736, 25, 737, 1144, 1145, 1146, 1147, 738, 739, 740, 741, 742, 743, 744, 746, 747, 748, 749, 750, 752] rfl
set_option maxRecDepth 20000 in
theorem wsL_law0_r32_in : ∀ w ∈ wsL_law0_r32, w ∈ lw_tbl := mem_r _ [26, 753, 754, 755, 757, 27, 758, 759, 760, 761, 763, 28, 764, 765, 767, 29, 768, 770, 772, 30, 773, 774, 776, 31] rfl
set_option maxRecDepth 20000 in
theorem wsL_law0_r33_in : ∀ w ∈ wsL_law0_r33, w ∈ lw_tbl := mem_r _ [777, 778, 780, 32, 781, 782, 784, 33, 785, 786, 788, 34, 789, 1148, 1149, 1150, 1151, 1152, 1154, 59, 1155, 1156, 1158, 60] rfl
set_option maxRecDepth 20000 in
theorem wsL_law0_r34_in : ∀ w ∈ wsL_law0_r34, w ∈ lw_tbl := mem_r _ [1159, 1160, 1162, 61, 1163, 1164, 1166, 62, 1167] rfl
set_option maxRecDepth 20000 in
theorem wsX60_tb : ∀ w ∈ wsX60, w ∈ lw_tbl := mem_r _ [233, 235, 237, 239, 241, 243, 245, 247, 249] rfl
set_option maxRecDepth 20000 in
theorem wsX70_tb : ∀ w ∈ wsX70, w ∈ lw_tbl := mem_r _ [844, 846, 848, 850, 852, 854, 856, 858, 860, 862, 864, 866, 868, 870, 872, 874, 876, 878, 880, 882, 884, 886, 888, 890, 892, 894, 896, 898, 900, 902, 904, 906, 908, 910, 912, 914, 916, 918, 920, 922, 924, 926, 928, 930, 932, 934, 936, 938] rfl
set_option maxRecDepth 20000 in
theorem wsX40_tb : ∀ w ∈ wsX40, w ∈ lw_tbl := mem_r _ [97, 99, 101, 103] rfl
set_option maxRecDepth 20000 in
theorem wsX00_tb : ∀ w ∈ wsX00, w ∈ lw_tbl := mem_r _ [121, 123, 125] rfl
set_option maxRecDepth 20000 in
theorem wsX30_tb : ∀ w ∈ wsX30, w ∈ lw_tbl := mem_r _ [142, 144, 146, 148] rfl
set_option maxRecDepth 20000 in
theorem wsX20_tb : ∀ w ∈ wsX20, w ∈ lw_tbl := mem_r _ [173, 175, 177, 179, 181, 183, 185, 187, 189, 191] rfl
set_option maxRecDepth 20000 in
theorem wsX10_tb : ∀ w ∈ wsX10, w ∈ lw_tbl := mem_r _ [204, 206] rfl
set_option maxRecDepth 20000 in
theorem wsX50_tb : ∀ w ∈ wsX50, w ∈ lw_tbl := mem_r _ [219, 221] rfl
theorem wsL_law0_rr : ∀ w ∈ (wsL_law0_r1 ++ (wsL_law0_r2 ++ (wsL_law0_r3 ++ (wsL_law0_r4 ++ (wsL_law0_r5 ++ (wsL_law0_r6 ++ (wsL_law0_r7 ++ (wsL_law0_r8 ++ (wsL_law0_r9 ++ (wsL_law0_r10 ++ (wsL_law0_r11 ++ (wsL_law0_r12 ++ (wsL_law0_r13 ++ (wsL_law0_r14 ++ (wsL_law0_r15 ++ (wsL_law0_r16 ++ (wsL_law0_r17 ++ (wsL_law0_r18 ++ (wsL_law0_r19 ++ (wsL_law0_r20 ++ (wsL_law0_r21 ++ (wsL_law0_r22 ++ (wsL_law0_r23 ++ (wsL_law0_r24 ++ (wsL_law0_r25 ++ (wsL_law0_r26 ++ (wsL_law0_r27 ++ (wsL_law0_r28 ++ (wsL_law0_r29 ++ (wsL_law0_r30 ++ (wsL_law0_r31 ++ (wsL_law0_r32 ++ (wsL_law0_r33 ++ wsL_law0_r34))))))))))))))))))))))))))))))))), w ∈ lw_tbl := (fun w h => (List.mem_append.mp h).elim (wsL_law0_r1_in w) (fun h => (fun w h => (List.mem_append.mp h).elim (wsL_law0_r2_in w) (fun h => (fun w h => (List.mem_append.mp h).elim (wsL_law0_r3_in w) (fun h => (fun w h => (List.mem_append.mp h).elim (wsL_law0_r4_in w) (fun h => (fun w h => (List.mem_append.mp h).elim (wsL_law0_r5_in w) (fun h => (fun w h => (List.mem_append.mp h).elim (wsL_law0_r6_in w) (fun h => (fun w h => (List.mem_append.mp h).elim (wsL_law0_r7_in w) (fun h => (fun w h => (List.mem_append.mp h).elim (wsL_law0_r8_in w) (fun h => (fun w h => (List.mem_append.mp h).elim (wsL_law0_r9_in w) (fun h => (fun w h => (List.mem_append.mp h).elim (wsL_law0_r10_in w) (fun h => (fun w h => (List.mem_append.mp h).elim (wsL_law0_r11_in w) (fun h => (fun w h => (List.mem_append.mp h).elim (wsL_law0_r12_in w) (fun h => (fun w h => (List.mem_append.mp h).elim (wsL_law0_r13_in w) (fun h => (fun w h => (List.mem_append.mp h).elim (wsL_law0_r14_in w) (fun h => (fun w h => (List.mem_append.mp h).elim (wsL_law0_r15_in w) (fun h => (fun w h => (List.mem_append.mp h).elim (wsL_law0_r16_in w) (fun h => (fun w h => (List.mem_append.mp h).elim (wsL_law0_r17_in w) (fun h => (fun w h => (List.mem_append.mp h).elim (wsL_law0_r18_in w) (fun h => (fun w h => (List.mem_append.mp h).elim (wsL_law0_r19_in w) (fun h => (fun w h => (List.mem_append.mp h).elim (wsL_law0_r20_in w) (fun h => (fun w h => (List.mem_append.mp h).elim (wsL_law0_r21_in w) (fun h => (fun w h => (List.mem_append.mp h).elim (wsL_law0_r22_in w) (fun h => (fun w h => (List.mem_append.mp h).elim (wsL_law0_r23_in w) (fun h => (fun w h => (List.mem_append.mp h).elim (wsL_law0_r24_in w) (fun h => (fun w h => (List.mem_append.mp h).elim (wsL_law0_r25_in w) (fun h => (fun w h => (List.mem_append.mp h).elim (wsL_law0_r26_in w) (fun h => (fun w h => (List.mem_append.mp h).elim (wsL_law0_r27_in w) (fun h => (fun w h => (List.mem_append.mp h).elim (wsL_law0_r28_in w) (fun h => (fun w h => (List.mem_append.mp h).elim (wsL_law0_r29_in w) (fun h => (fun w h => (List.mem_append.mp h).elim (wsL_law0_r30_in w) (fun h => (fun w h => (List.mem_append.mp h).elim (wsL_law0_r31_in w) (fun h => (fun w h => (List.mem_append.mp h).elim (wsL_law0_r32_in w) (fun h => (fun w h => (List.mem_append.mp h).elim (wsL_law0_r33_in w) (fun h => (fun w h => wsL_law0_r34_in w h) w h)) w h)) w h)) w h)) w h)) w h)) w h)) w h)) w h)) w h)) w h)) w h)) w h)) w h)) w h)) w h)) w h)) w h)) w h)) w h)) w h)) w h)) w h)) w h)) w h)) w h)) w h)) w h)) w h)) w h)) w h)) w h)) w h))
theorem wsL_law_in0 : ∀ w ∈ wsL_law0, w ∈ lw_tbl := fun w h => (List.mem_append.mp h).elim (fun h => (fun w h => (List.mem_append.mp h).elim (fun h => (fun w h => (List.mem_append.mp h).elim (fun h => (fun w h => (List.mem_append.mp h).elim (fun h => (fun w h => (List.mem_append.mp h).elim (fun h => (fun w h => (List.mem_append.mp h).elim (fun h => (fun w h => (List.mem_append.mp h).elim (fun h => (fun w h => (List.mem_append.mp h).elim (fun h => (fun w h => (List.mem_append.mp h).elim (fun h => (fun w h => wsL_law0_rr w h) w h) (wsX60_tb w)) w h) (wsX70_tb w)) w h) (wsX40_tb w)) w h) (wsX00_tb w)) w h) (wsX30_tb w)) w h) (wsX20_tb w)) w h) (wsX10_tb w)) w h) (wsX50_tb w)) w h) (fun h => absurd h List.not_mem_nil)
theorem wsL_law_x0 : ∀ w ∈ (vx_atS RX6 72 "java/lang/IndexOutOfBoundsException" ["java/lang/RuntimeException", "java/lang/Exception"]).filter goodWord, w ∈ lw_tbl := by decide +kernel
theorem wsL_law_x1 : ∀ w ∈ (vx_atS RX6 83 "java/lang/IllegalArgumentException" ["java/lang/RuntimeException", "java/lang/Exception"]).filter goodWord, w ∈ lw_tbl := by decide +kernel
theorem wsL_law_x2 : ∀ w ∈ (vx_atS RX6 120 "java/lang/IllegalStateException" ["java/lang/RuntimeException", "java/lang/Exception"]).filter goodWord, w ∈ lw_tbl := by decide +kernel
theorem wsL_law_in : ∀ w ∈ wsL_law, w ∈ lw_tbl := fun w h => (List.mem_append.mp h).elim (fun h => (List.mem_append.mp h).elim (fun h => (List.mem_append.mp h).elim (fun h => wsL_law_in0 w h) (fun h => wsL_law_x0 w h)) (fun h => wsL_law_x1 w h)) (fun h => wsL_law_x2 w h)
theorem inlX0 : ∀ w ∈ wsX00, w ∈ wsL_law := fun _ h => List.mem_append_left _ (List.mem_append_left _ (List.mem_append_left _ (List.mem_append_left _ (List.mem_append_left _ (List.mem_append_left _ (List.mem_append_left _ (List.mem_append_left _ (List.mem_append_right _ h))))))))
theorem inX0 : ∀ w ∈ wsX00, w ∈ lw_tbl := fun w h => wsL_law_in w (inlX0 w h)
theorem inlX1 : ∀ w ∈ wsX10, w ∈ wsL_law := fun _ h => List.mem_append_left _ (List.mem_append_left _ (List.mem_append_left _ (List.mem_append_left _ (List.mem_append_left _ (List.mem_append_right _ h)))))
theorem inX1 : ∀ w ∈ wsX10, w ∈ lw_tbl := fun w h => wsL_law_in w (inlX1 w h)
theorem inlX2 : ∀ w ∈ wsX20, w ∈ wsL_law := fun _ h => List.mem_append_left _ (List.mem_append_left _ (List.mem_append_left _ (List.mem_append_left _ (List.mem_append_left _ (List.mem_append_left _ (List.mem_append_right _ h))))))
theorem inX2 : ∀ w ∈ wsX20, w ∈ lw_tbl := fun w h => wsL_law_in w (inlX2 w h)
theorem inlX3 : ∀ w ∈ wsX30, w ∈ wsL_law := fun _ h => List.mem_append_left _ (List.mem_append_left _ (List.mem_append_left _ (List.mem_append_left _ (List.mem_append_left _ (List.mem_append_left _ (List.mem_append_left _ (List.mem_append_right _ h)))))))
theorem inX3 : ∀ w ∈ wsX30, w ∈ lw_tbl := fun w h => wsL_law_in w (inlX3 w h)
theorem inlX4 : ∀ w ∈ wsX40, w ∈ wsL_law := fun _ h => List.mem_append_left _ (List.mem_append_left _ (List.mem_append_left _ (List.mem_append_left _ (List.mem_append_left _ (List.mem_append_left _ (List.mem_append_left _ (List.mem_append_left _ (List.mem_append_left _ (List.mem_append_right _ h)))))))))
theorem inX4 : ∀ w ∈ wsX40, w ∈ lw_tbl := fun w h => wsL_law_in w (inlX4 w h)
theorem inlX5 : ∀ w ∈ wsX50, w ∈ wsL_law := fun _ h => List.mem_append_left _ (List.mem_append_left _ (List.mem_append_left _ (List.mem_append_left _ (List.mem_append_right _ h))))
theorem inX5 : ∀ w ∈ wsX50, w ∈ lw_tbl := fun w h => wsL_law_in w (inlX5 w h)
theorem inlX6 : ∀ w ∈ wsX60, w ∈ wsL_law := fun _ h => List.mem_append_left _ (List.mem_append_left _ (List.mem_append_left _ (List.mem_append_left _ (List.mem_append_left _ (List.mem_append_left _ (List.mem_append_left _ (List.mem_append_left _ (List.mem_append_left _ (List.mem_append_left _ (List.mem_append_left _ (List.mem_append_right _ h)))))))))))
theorem inX6 : ∀ w ∈ wsX60, w ∈ lw_tbl := fun w h => wsL_law_in w (inlX6 w h)
theorem inlX7 : ∀ w ∈ wsX70, w ∈ wsL_law := fun _ h => List.mem_append_left _ (List.mem_append_left _ (List.mem_append_left _ (List.mem_append_left _ (List.mem_append_left _ (List.mem_append_left _ (List.mem_append_left _ (List.mem_append_left _ (List.mem_append_left _ (List.mem_append_left _ (List.mem_append_right _ h))))))))))
theorem inX7 : ∀ w ∈ wsX70, w ∈ lw_tbl := fun w h => wsL_law_in w (inlX7 w h)
theorem inJ0 : ∀ w ∈ wsJ00, w ∈ lw_tbl := by decide +kernel
