theorem z_mem {big ws : List Cond} (ps : List Nat) (hp : ws = ps.filterMap (fun i => big[i]?)) : ∀ w ∈ ws, w ∈ big := by
  intro w hw
  rw [hp] at hw
  obtain ⟨i, -, hi⟩ := List.mem_filterMap.mp hw
  first | exact List.mem_of_getElem? hi | exact List.getElem?_mem hi
set_option maxRecDepth 100000 in
theorem wsL_law_r1_in : ∀ w ∈ wsL_law_r1, w ∈ lw_tbl := z_mem [71, 72, 53, 812, 813, 62, 1178, 73, 74, 75, 76, 77, 78, 79, 80, 54, 291, 119, 120, 55, 292, 150, 151, 56] rfl
set_option maxRecDepth 100000 in
theorem wsL_law_r2_in : ∀ w ∈ wsL_law_r2, w ∈ lw_tbl := z_mem [293, 294, 295, 296, 168, 297, 298, 299, 204, 300, 170, 171, 57, 301, 205, 206, 59, 302, 226, 227, 60, 303, 263, 264] rfl
set_option maxRecDepth 100000 in
theorem wsL_law_r3_in : ∀ w ∈ wsL_law_r3, w ∈ lw_tbl := z_mem [61, 304, 305, 306, 307, 82, 83, 84, 86, 85, 93, 95, 118, 99, 101, 122, 123, 124, 125, 130, 133, 137, 153, 154] rfl
set_option maxRecDepth 100000 in
theorem wsL_law_r4_in : ∀ w ∈ wsL_law_r4, w ∈ lw_tbl := z_mem [155, 156, 158, 167, 159, 173, 174, 175, 187, 189, 190, 176, 191, 192, 178, 179, 180, 181, 182, 58, 183, 184, 186, 208] rfl
set_option maxRecDepth 100000 in
theorem wsL_law_r5_in : ∀ w ∈ wsL_law_r5, w ∈ lw_tbl := z_mem [209, 210, 211, 214, 216, 218, 213, 229, 230, 231, 235, 237, 239, 241, 242, 243, 232, 244, 245, 234, 266, 267, 268, 270] rfl
set_option maxRecDepth 100000 in
theorem wsL_law_r6_in : ∀ w ∈ wsL_law_r6, w ∈ lw_tbl := z_mem [272, 274, 275, 276, 277, 269, 814, 815, 816, 817, 818, 819, 820, 821, 823, 825, 826, 827, 831, 832, 833, 834, 835, 836] rfl
set_option maxRecDepth 100000 in
theorem wsL_law_r7_in : ∀ w ∈ wsL_law_r7, w ∈ lw_tbl := z_mem [837, 838, 839, 840, 842, 843, 844, 845, 846, 847, 848, 343, 344, 345, 346, 87, 347, 348, 349, 350, 352, 0, 353, 354] rfl
set_option maxRecDepth 100000 in
theorem wsL_law_r8_in : ∀ w ∈ wsL_law_r8, w ∈ lw_tbl := z_mem [355, 356, 357, 912, 913, 914, 915, 916, 920, 822, 917, 918, 919, 921, 923, 20, 924, 358, 359, 360, 361, 104, 362, 363] rfl
set_option maxRecDepth 100000 in
theorem wsL_law_r9_in : ∀ w ∈ wsL_law_r9, w ∈ lw_tbl := z_mem [364, 365, 925, 926, 927, 928, 929, 931, 21, 932, 366, 367, 368, 369, 100, 94, 97, 370, 371, 372, 373, 374, 375, 376] rfl
set_option maxRecDepth 100000 in
theorem wsL_law_r10_in : ∀ w ∈ wsL_law_r10, w ∈ lw_tbl := z_mem [377, 933, 934, 935, 936, 937, 938, 940, 22, 941, 378, 379, 380, 381, 382, 383, 384, 385, 386, 387, 388, 389, 942, 943] rfl
set_option maxRecDepth 100000 in
theorem wsL_law_r11_in : ∀ w ∈ wsL_law_r11, w ∈ lw_tbl := z_mem [944, 945, 946, 948, 23, 949, 390, 391, 392, 393, 394, 395, 396, 397, 398, 399, 950, 951, 952, 953, 954, 956, 24, 957] rfl
set_option maxRecDepth 100000 in
theorem wsL_law_r12_in : ∀ w ∈ wsL_law_r12, w ∈ lw_tbl := z_mem [958, 960, 25, 961, 962, 963, 964, 965, 967, 26, 968, 400, 401, 402, 403, 404, 405, 406, 407, 408, 409, 63, 410, 411] rfl
set_option maxRecDepth 100000 in
theorem wsL_law_r13_in : ∀ w ∈ wsL_law_r13, w ∈ lw_tbl := z_mem [412, 413, 969, 970, 971, 972, 973, 975, 27, 976, 977, 978, 979, 980, 982, 28, 983, 414, 415, 416, 417, 157, 418, 419] rfl
set_option maxRecDepth 100000 in
theorem wsL_law_r14_in : ∀ w ∈ wsL_law_r14, w ∈ lw_tbl := z_mem [420, 421, 422, 423, 424, 425, 426, 427, 988, 989, 990, 991, 992, 993, 994, 995, 828, 428, 429, 430, 431, 432, 433, 434] rfl
set_option maxRecDepth 100000 in
theorem wsL_law_r15_in : ∀ w ∈ wsL_law_r15, w ∈ lw_tbl := z_mem [435, 92, 436, 437, 438, 439, 441, 443, 1, 444, 445, 447, 2, 448, 449, 450, 451, 64, 452, 453, 454, 455, 456, 1180] rfl
set_option maxRecDepth 100000 in
theorem wsL_law_r16_in : ∀ w ∈ wsL_law_r16, w ∈ lw_tbl := z_mem [457, 458, 459, 460, 461, 1179, 463, 464, 465, 466, 467, 468, 469, 470, 471, 472, 65, 473, 477, 478, 479, 480, 474, 475] rfl
set_option maxRecDepth 100000 in
theorem wsL_law_r17_in : ∀ w ∈ wsL_law_r17, w ∈ lw_tbl := z_mem [476, 481, 482, 483, 484, 485, 66, 486, 487, 488, 489, 490, 491, 492, 493, 494, 495, 496, 497, 498, 499, 500, 501, 502] rfl
set_option maxRecDepth 100000 in
theorem wsL_law_r18_in : ∀ w ∈ wsL_law_r18, w ∈ lw_tbl := z_mem [504, 505, 67, 506, 507, 508, 509, 510, 511, 512, 513, 515, 517, 519, 520, 521, 522, 523, 68, 524, 525, 526, 527, 528] rfl
set_option maxRecDepth 100000 in
theorem wsL_law_r19_in : ∀ w ∈ wsL_law_r19, w ∈ lw_tbl := z_mem [529, 530, 531, 532, 533, 534, 535, 536, 538, 3, 539, 540, 541, 542, 543, 544, 545, 546, 547, 549, 548, 69, 550, 551] rfl
set_option maxRecDepth 100000 in
theorem wsL_law_r20_in : ∀ w ∈ wsL_law_r20, w ∈ lw_tbl := z_mem [552, 553, 996, 997, 998, 999, 829, 824, 830, 1000, 1002, 29, 1003, 1004, 1006, 30, 1007, 1008, 1010, 31, 1011, 1012, 1014, 32] rfl
set_option maxRecDepth 100000 in
theorem wsL_law_r21_in : ∀ w ∈ wsL_law_r21, w ∈ lw_tbl := z_mem [1015, 1016, 1017, 1018, 555, 556, 557, 558, 559, 560, 561, 562, 131, 128, 563, 564, 566, 4, 567, 568, 569, 570, 571, 572] rfl
set_option maxRecDepth 100000 in
theorem wsL_law_r22_in : ∀ w ∈ wsL_law_r22, w ∈ lw_tbl := z_mem [573, 574, 575, 576, 1019, 1020, 1021, 1022, 1023, 1025, 33, 1026, 1027, 1029, 34, 1030, 577, 578, 579, 580, 129, 132, 581, 582] rfl
set_option maxRecDepth 100000 in
theorem wsL_law_r23_in : ∀ w ∈ wsL_law_r23, w ∈ lw_tbl := z_mem [583, 584, 585, 984, 985, 986, 987, 586, 587, 588, 589, 136, 140, 590, 591, 592, 593, 98, 594, 595, 596, 597, 1031, 1032] rfl
set_option maxRecDepth 100000 in
theorem wsL_law_r24_in : ∀ w ∈ wsL_law_r24, w ∈ lw_tbl := z_mem [1033, 1034, 598, 599, 600, 601, 188, 602, 604, 5, 605, 606, 607, 608, 609, 88, 610, 611, 612, 614, 6, 615, 127, 106] rfl
set_option maxRecDepth 100000 in
theorem wsL_law_r25_in : ∀ w ∈ wsL_law_r25, w ∈ lw_tbl := z_mem [616, 618, 7, 619, 621, 620, 623, 625, 8, 626, 627, 629, 9, 630, 139, 135, 631, 632, 633, 634, 635, 636, 637, 1035] rfl
set_option maxRecDepth 100000 in
theorem wsL_law_r26_in : ∀ w ∈ wsL_law_r26, w ∈ lw_tbl := z_mem [1036, 1037, 1038, 1039, 1041, 35, 1042, 1043, 1045, 36, 1046, 1047, 1049, 37, 1050, 1051, 1053, 38, 1054, 638, 639, 640, 641, 642] rfl
set_option maxRecDepth 100000 in
theorem wsL_law_r27_in : ∀ w ∈ wsL_law_r27, w ∈ lw_tbl := z_mem [643, 644, 645, 1055, 1056, 1057, 1058, 646, 647, 648, 649, 215, 650, 652, 10, 653, 654, 655, 656, 657, 658, 659, 661, 11] rfl
set_option maxRecDepth 100000 in
theorem wsL_law_r28_in : ∀ w ∈ wsL_law_r28, w ∈ lw_tbl := z_mem [662, 90, 103, 663, 664, 666, 12, 667, 668, 1059, 1060, 1061, 1062, 1063, 1065, 39, 1066, 1067, 1069, 40, 1070, 1071, 1073, 41] rfl
set_option maxRecDepth 100000 in
theorem wsL_law_r29_in : ∀ w ∈ wsL_law_r29, w ∈ lw_tbl := z_mem [1074, 1075, 1077, 42, 1078, 669, 670, 671, 672, 217, 1079, 1080, 1081, 1082, 673, 674, 675, 676, 236, 240, 677, 678, 679, 680] rfl
set_option maxRecDepth 100000 in
theorem wsL_law_r30_in : ∀ w ∈ wsL_law_r30, w ∈ lw_tbl := z_mem [681, 682, 683, 685, 13, 686, 126, 134, 138, 687, 689, 14, 690, 105, 91, 691, 692, 693, 694, 1083, 1084, 1085, 1086, 1087] rfl
set_option maxRecDepth 100000 in
theorem wsL_law_r31_in : ∀ w ∈ wsL_law_r31, w ∈ lw_tbl := z_mem [1088, 1093, 1089, 1091, 43, 1092, 1094, 1096, 44, 1097, 1098, 1100, 45, 1101, 1102, 1104, 46, 1105, 695, 696, 697, 698, 699, 238] rfl
set_option maxRecDepth 100000 in
theorem wsL_law_r32_in : ∀ w ∈ wsL_law_r32, w ∈ lw_tbl := z_mem [1106, 1107, 1108, 1109, 1110, 700, 701, 702, 703, 704, 709, 705, 707, 15, 708, 1111, 1112, 1113, 1114, 1115, 710, 711, 712, 713] rfl
set_option maxRecDepth 100000 in
theorem wsL_law_r33_in : ∀ w ∈ wsL_law_r33, w ∈ lw_tbl := z_mem [714, 716, 16, 717, 718, 1116, 1117, 1118, 1119, 1120, 1122, 47, 1123, 719, 720, 721, 722, 1124, 1125, 1126, 1127, 841, 1128, 1130] rfl
set_option maxRecDepth 100000 in
theorem wsL_law_r34_in : ∀ w ∈ wsL_law_r34, w ∈ lw_tbl := z_mem [48, 1131, 723, 724, 725, 726, 1132, 1133, 1134, 1135, 727, 728, 729, 730, 271, 273, 731, 732, 733, 734, 735, 736, 737, 738] rfl
set_option maxRecDepth 100000 in
theorem wsL_law_r35_in : ∀ w ∈ wsL_law_r35, w ∈ lw_tbl := z_mem [739, 70, 740, 780, 741, 742, 743, 744, 782, 745, 746, 747, 748, 749, 750, 751, 752, 753, 96, 89, 102, 783, 754, 755] rfl
set_option maxRecDepth 100000 in
theorem wsL_law_r36_in : ∀ w ∈ wsL_law_r36, w ∈ lw_tbl := z_mem [757, 17, 758, 759, 761, 18, 762, 763, 765, 19, 766, 767, 768, 1166, 1167, 1168, 1169, 1140, 1141, 1142, 1151, 1153, 49, 1154] rfl
set_option maxRecDepth 100000 in
theorem wsL_law_r37_in : ∀ w ∈ wsL_law_r37, w ∈ lw_tbl := z_mem [1170, 1172, 50, 1173, 1174, 1176, 51, 1177, 769, 770, 771, 772, 773, 774, 775, 776, 777, 778, 779, 1136, 1137, 1138, 1139, 790] rfl
set_option maxRecDepth 100000 in
theorem wsL_law_r38_in : ∀ w ∈ wsL_law_r38, w ∈ lw_tbl := z_mem [791, 792, 793, 784, 1143, 1144, 1145, 1146, 794, 795, 796, 797, 798, 799, 800, 801, 1147, 1148, 1149, 1150, 1155, 1156, 1157, 802] rfl
set_option maxRecDepth 100000 in
theorem wsL_law_r39_in : ∀ w ∈ wsL_law_r39, w ∈ lw_tbl := z_mem [803, 804, 805, 1158, 1159, 1160, 1161, 806, 807, 808, 809, 781, 811, 810, 1162, 1163, 1164, 1165] rfl
set_option maxRecDepth 100000 in
theorem wsX80_in : ∀ w ∈ wsX80, w ∈ lw_tbl := by decide +kernel
set_option maxRecDepth 100000 in
theorem wsX90_in : ∀ w ∈ wsX90, w ∈ lw_tbl := by decide +kernel
set_option maxRecDepth 100000 in
theorem wsX00_in : ∀ w ∈ wsX00, w ∈ lw_tbl := by decide +kernel
set_option maxRecDepth 100000 in
theorem wsX20_in : ∀ w ∈ wsX20, w ∈ lw_tbl := by decide +kernel
set_option maxRecDepth 100000 in
theorem wsX50_in : ∀ w ∈ wsX50, w ∈ lw_tbl := by decide +kernel
set_option maxRecDepth 100000 in
theorem wsX60_in : ∀ w ∈ wsX60, w ∈ lw_tbl := by decide +kernel
set_option maxRecDepth 100000 in
theorem wsX70_in : ∀ w ∈ wsX70, w ∈ lw_tbl := by decide +kernel
set_option maxRecDepth 100000 in
theorem wsX10_in : ∀ w ∈ wsX10, w ∈ lw_tbl := by decide +kernel
set_option maxRecDepth 100000 in
theorem wsX30_in : ∀ w ∈ wsX30, w ∈ lw_tbl := by decide +kernel
set_option maxRecDepth 100000 in
theorem wsX40_in : ∀ w ∈ wsX40, w ∈ lw_tbl := by decide +kernel
set_option maxRecDepth 100000 in
theorem wsL_law_in : ∀ w ∈ wsL_law, w ∈ lw_tbl := by
  unfold wsL_law
  exact fun w h => (List.mem_append.mp h).elim ((fun w h => (List.mem_append.mp h).elim ((fun w h => (List.mem_append.mp h).elim ((fun w h => (List.mem_append.mp h).elim ((fun w h => (List.mem_append.mp h).elim ((fun w h => (List.mem_append.mp h).elim ((fun w h => (List.mem_append.mp h).elim ((fun w h => (List.mem_append.mp h).elim ((fun w h => (List.mem_append.mp h).elim ((fun w h => (List.mem_append.mp h).elim ((fun w h => (List.mem_append.mp h).elim ((fun w h => (List.mem_append.mp h).elim ((wsL_law_r1_in) w) ((fun w h => (List.mem_append.mp h).elim ((wsL_law_r2_in) w) ((fun w h => (List.mem_append.mp h).elim ((wsL_law_r3_in) w) ((fun w h => (List.mem_append.mp h).elim ((wsL_law_r4_in) w) ((fun w h => (List.mem_append.mp h).elim ((wsL_law_r5_in) w) ((fun w h => (List.mem_append.mp h).elim ((wsL_law_r6_in) w) ((fun w h => (List.mem_append.mp h).elim ((wsL_law_r7_in) w) ((fun w h => (List.mem_append.mp h).elim ((wsL_law_r8_in) w) ((fun w h => (List.mem_append.mp h).elim ((wsL_law_r9_in) w) ((fun w h => (List.mem_append.mp h).elim ((wsL_law_r10_in) w) ((fun w h => (List.mem_append.mp h).elim ((wsL_law_r11_in) w) ((fun w h => (List.mem_append.mp h).elim ((wsL_law_r12_in) w) ((fun w h => (List.mem_append.mp h).elim ((wsL_law_r13_in) w) ((fun w h => (List.mem_append.mp h).elim ((wsL_law_r14_in) w) ((fun w h => (List.mem_append.mp h).elim ((wsL_law_r15_in) w) ((fun w h => (List.mem_append.mp h).elim ((wsL_law_r16_in) w) ((fun w h => (List.mem_append.mp h).elim ((wsL_law_r17_in) w) ((fun w h => (List.mem_append.mp h).elim ((wsL_law_r18_in) w) ((fun w h => (List.mem_append.mp h).elim ((wsL_law_r19_in) w) ((fun w h => (List.mem_append.mp h).elim ((wsL_law_r20_in) w) ((fun w h => (List.mem_append.mp h).elim ((wsL_law_r21_in) w) ((fun w h => (List.mem_append.mp h).elim ((wsL_law_r22_in) w) ((fun w h => (List.mem_append.mp h).elim ((wsL_law_r23_in) w) ((fun w h => (List.mem_append.mp h).elim ((wsL_law_r24_in) w) ((fun w h => (List.mem_append.mp h).elim ((wsL_law_r25_in) w) ((fun w h => (List.mem_append.mp h).elim ((wsL_law_r26_in) w) ((fun w h => (List.mem_append.mp h).elim ((wsL_law_r27_in) w) ((fun w h => (List.mem_append.mp h).elim ((wsL_law_r28_in) w) ((fun w h => (List.mem_append.mp h).elim ((wsL_law_r29_in) w) ((fun w h => (List.mem_append.mp h).elim ((wsL_law_r30_in) w) ((fun w h => (List.mem_append.mp h).elim ((wsL_law_r31_in) w) ((fun w h => (List.mem_append.mp h).elim ((wsL_law_r32_in) w) ((fun w h => (List.mem_append.mp h).elim ((wsL_law_r33_in) w) ((fun w h => (List.mem_append.mp h).elim ((wsL_law_r34_in) w) ((fun w h => (List.mem_append.mp h).elim ((wsL_law_r35_in) w) ((fun w h => (List.mem_append.mp h).elim ((wsL_law_r36_in) w) ((fun w h => (List.mem_append.mp h).elim ((wsL_law_r37_in) w) ((fun w h => (List.mem_append.mp h).elim ((wsL_law_r38_in) w) ((wsL_law_r39_in) w)) w)) w)) w)) w)) w)) w)) w)) w)) w)) w)) w)) w)) w)) w)) w)) w)) w)) w)) w)) w)) w)) w)) w)) w)) w)) w)) w)) w)) w)) w)) w)) w)) w)) w)) w)) w)) w)) w) ((wsX80_in) w)) w) ((wsX90_in) w)) w) ((wsX00_in) w)) w) ((wsX20_in) w)) w) ((wsX50_in) w)) w) ((wsX60_in) w)) w) ((wsX70_in) w)) w) ((wsX10_in) w)) w) ((wsX30_in) w)) w) ((wsX40_in) w)) w) ((fun _ h => absurd h List.not_mem_nil) w)
theorem inlX0 : ∀ w ∈ wsX00, w ∈ wsL_law := fun _ h => List.mem_append_left _ (List.mem_append_left _ (List.mem_append_left _ (List.mem_append_left _ (List.mem_append_left _ (List.mem_append_left _ (List.mem_append_left _ (List.mem_append_left _ (List.mem_append_right _ h))))))))
theorem inX0 : ∀ w ∈ wsX00, w ∈ lw_tbl := fun w h => wsL_law_in w (inlX0 w h)
theorem inlX1 : ∀ w ∈ wsX10, w ∈ wsL_law := fun _ h => List.mem_append_left _ (List.mem_append_left _ (List.mem_append_left _ (List.mem_append_right _ h)))
theorem inX1 : ∀ w ∈ wsX10, w ∈ lw_tbl := fun w h => wsL_law_in w (inlX1 w h)
theorem inlX2 : ∀ w ∈ wsX20, w ∈ wsL_law := fun _ h => List.mem_append_left _ (List.mem_append_left _ (List.mem_append_left _ (List.mem_append_left _ (List.mem_append_left _ (List.mem_append_left _ (List.mem_append_left _ (List.mem_append_right _ h)))))))
theorem inX2 : ∀ w ∈ wsX20, w ∈ lw_tbl := fun w h => wsL_law_in w (inlX2 w h)
theorem inlX3 : ∀ w ∈ wsX30, w ∈ wsL_law := fun _ h => List.mem_append_left _ (List.mem_append_left _ (List.mem_append_right _ h))
theorem inX3 : ∀ w ∈ wsX30, w ∈ lw_tbl := fun w h => wsL_law_in w (inlX3 w h)
theorem inlX4 : ∀ w ∈ wsX40, w ∈ wsL_law := fun _ h => List.mem_append_left _ (List.mem_append_right _ h)
theorem inX4 : ∀ w ∈ wsX40, w ∈ lw_tbl := fun w h => wsL_law_in w (inlX4 w h)
theorem inlX5 : ∀ w ∈ wsX50, w ∈ wsL_law := fun _ h => List.mem_append_left _ (List.mem_append_left _ (List.mem_append_left _ (List.mem_append_left _ (List.mem_append_left _ (List.mem_append_left _ (List.mem_append_right _ h))))))
theorem inX5 : ∀ w ∈ wsX50, w ∈ lw_tbl := fun w h => wsL_law_in w (inlX5 w h)
theorem inlX6 : ∀ w ∈ wsX60, w ∈ wsL_law := fun _ h => List.mem_append_left _ (List.mem_append_left _ (List.mem_append_left _ (List.mem_append_left _ (List.mem_append_left _ (List.mem_append_right _ h)))))
theorem inX6 : ∀ w ∈ wsX60, w ∈ lw_tbl := fun w h => wsL_law_in w (inlX6 w h)
theorem inlX7 : ∀ w ∈ wsX70, w ∈ wsL_law := fun _ h => List.mem_append_left _ (List.mem_append_left _ (List.mem_append_left _ (List.mem_append_left _ (List.mem_append_right _ h))))
theorem inX7 : ∀ w ∈ wsX70, w ∈ lw_tbl := fun w h => wsL_law_in w (inlX7 w h)
theorem inlX8 : ∀ w ∈ wsX80, w ∈ wsL_law := fun _ h => List.mem_append_left _ (List.mem_append_left _ (List.mem_append_left _ (List.mem_append_left _ (List.mem_append_left _ (List.mem_append_left _ (List.mem_append_left _ (List.mem_append_left _ (List.mem_append_left _ (List.mem_append_left _ (List.mem_append_right _ h))))))))))
theorem inX8 : ∀ w ∈ wsX80, w ∈ lw_tbl := fun w h => wsL_law_in w (inlX8 w h)
theorem inlX9 : ∀ w ∈ wsX90, w ∈ wsL_law := fun _ h => List.mem_append_left _ (List.mem_append_left _ (List.mem_append_left _ (List.mem_append_left _ (List.mem_append_left _ (List.mem_append_left _ (List.mem_append_left _ (List.mem_append_left _ (List.mem_append_left _ (List.mem_append_right _ h)))))))))
theorem inX9 : ∀ w ∈ wsX90, w ∈ lw_tbl := fun w h => wsL_law_in w (inlX9 w h)
