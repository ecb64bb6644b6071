/-! ===== the law's words are among the tables' ===== -/
theorem mem_ps {big ws : List Cond} (ps : List Nat) (hp : ws = ps.filterMap (fun i => big[i]?)) : ∀ w ∈ ws, w ∈ big := by
  intro w h
  rw [hp] at h
  obtain ⟨i, -, hi⟩ := List.mem_filterMap.mp h
  exact List.mem_of_getElem? hi
set_option maxRecDepth 20000 in
theorem li_r1 : ∀ w ∈ wsL_law0_r1, w ∈ lw_tbl := mem_ps [66, 67, 49, 902, 903, 59, 1037, 68, 69, 70, 71, 72, 73, 74, 75, 50, 315, 124, 125, 51, 316, 146, 147, 52] (by decide +kernel)
set_option maxRecDepth 20000 in
theorem li_r2 : ∀ w ∈ wsL_law0_r2, w ∈ lw_tbl := mem_ps [317, 175, 176, 53, 318, 319, 320, 194, 195, 54, 321, 322, 323, 207, 208, 55, 324, 226, 227, 56, 325, 260, 261, 57] (by decide +kernel)
set_option maxRecDepth 20000 in
theorem li_r3 : ∀ w ∈ wsL_law0_r3, w ∈ lw_tbl := mem_ps [326, 284, 285, 58, 327, 328, 329, 77, 78, 79, 80, 82, 84, 88, 90, 92, 123, 98, 104, 126, 127, 128, 129, 131] (by decide +kernel)
set_option maxRecDepth 20000 in
theorem li_r4 : ∀ w ∈ wsL_law0_r4, w ∈ lw_tbl := mem_ps [132, 133, 134, 130, 148, 149, 150, 151, 153, 154, 156, 158, 160, 152, 178, 179, 180, 181, 183, 185, 197, 198, 199, 200] (by decide +kernel)
set_option maxRecDepth 20000 in
theorem li_r5 : ∀ w ∈ wsL_law0_r5, w ∈ lw_tbl := mem_ps [201, 210, 211, 212, 213, 214, 215, 216, 228, 229, 230, 231, 233, 234, 235, 236, 237, 238, 239, 240, 232, 263, 264, 265] (by decide +kernel)
set_option maxRecDepth 20000 in
theorem li_r6 : ∀ w ∈ wsL_law0_r6, w ∈ lw_tbl := mem_ps [266, 268, 270, 283, 272, 287, 288, 289, 290, 292, 294, 296, 298, 300, 904, 905, 906, 907, 911, 913, 917, 918, 919, 920] (by decide +kernel)
set_option maxRecDepth 20000 in
theorem li_r7 : ∀ w ∈ wsL_law0_r7, w ∈ lw_tbl := mem_ps [921, 922, 908, 925, 926, 928, 929, 931, 932, 936, 937, 938, 939, 940, 941, 942, 944, 945, 946, 948, 949, 950, 951, 361] (by decide +kernel)
set_option maxRecDepth 20000 in
theorem li_r8 : ∀ w ∈ wsL_law0_r8, w ∈ lw_tbl := mem_ps [362, 363, 364, 365, 366, 367, 368, 369, 370, 371, 372, 373, 374, 375, 376, 378, 0, 379, 380, 381, 382, 383, 384, 385] (by decide +kernel)
set_option maxRecDepth 20000 in
theorem li_r9 : ∀ w ∈ wsL_law0_r9, w ∈ lw_tbl := mem_ps [386, 387, 1042, 1043, 1044, 1045, 910, 916, 912, 914, 915, 1046, 1047, 1048, 1049, 1051, 25, 1052, 923, 927, 934, 388, 389, 390] (by decide +kernel)
set_option maxRecDepth 20000 in
theorem li_r10 : ∀ w ∈ wsL_law0_r10, w ∈ lw_tbl := mem_ps [391, 81, 89, 91, 1053, 1054, 1055, 1056, 392, 393, 394, 395, 96, 155, 396, 397, 398, 399, 400, 401, 402, 403, 1057, 1058] (by decide +kernel)
set_option maxRecDepth 20000 in
theorem li_r11 : ∀ w ∈ wsL_law0_r11, w ∈ lw_tbl := mem_ps [1059, 1060, 404, 405, 406, 407, 408, 409, 410, 411, 1061, 1062, 1063, 1064, 1065, 1067, 26, 1068, 412, 413, 414, 415, 416, 417] (by decide +kernel)
set_option maxRecDepth 20000 in
theorem li_r12 : ∀ w ∈ wsL_law0_r12, w ∈ lw_tbl := mem_ps [418, 419, 95, 1069, 1070, 1071, 1072, 420, 421, 422, 423, 100, 157, 159, 424, 425, 426, 427, 428, 429, 60, 430, 431, 432] (by decide +kernel)
set_option maxRecDepth 20000 in
theorem li_r13 : ∀ w ∈ wsL_law0_r13, w ∈ lw_tbl := mem_ps [433, 434, 435, 436, 61, 437, 1073, 1074, 1075, 1076, 1077, 1079, 27, 1080, 1081, 1082, 1084, 28, 1085, 438, 439, 440, 441, 442] (by decide +kernel)
set_option maxRecDepth 20000 in
theorem li_r14 : ∀ w ∈ wsL_law0_r14, w ∈ lw_tbl := mem_ps [443, 444, 445, 446, 448, 1, 449, 86, 450, 451, 452, 453, 454, 456, 2, 457, 97, 102, 465, 466, 467, 458, 460, 3] (by decide +kernel)
set_option maxRecDepth 20000 in
theorem li_r15 : ∀ w ∈ wsL_law0_r15, w ∈ lw_tbl := mem_ps [461, 463, 464, 468, 469, 470, 471, 472, 473, 474, 1086, 1087, 1088, 1089, 924, 1090, 1092, 29, 1093, 1094, 1096, 30, 1097, 1098] (by decide +kernel)
set_option maxRecDepth 20000 in
theorem li_r16 : ∀ w ∈ wsL_law0_r16, w ∈ lw_tbl := mem_ps [1100, 31, 1101, 1102, 475, 476, 477, 478, 484, 479, 480, 481, 482, 483, 485, 486, 487, 488, 489, 490, 491, 492, 493, 494] (by decide +kernel)
set_option maxRecDepth 20000 in
theorem li_r17 : ∀ w ∈ wsL_law0_r17, w ∈ lw_tbl := mem_ps [495, 496, 497, 498, 499, 500, 501, 502, 503, 504, 505, 506, 507, 508, 509, 510, 512, 4, 513, 1103, 1104, 1105, 1106, 1111] (by decide +kernel)
set_option maxRecDepth 20000 in
theorem li_r18 : ∀ w ∈ wsL_law0_r18, w ∈ lw_tbl := mem_ps [1107, 1109, 32, 1110, 1112, 1114, 33, 1115, 1116, 1118, 34, 1119, 1120, 1122, 35, 1123, 1124, 1126, 36, 1127, 514, 515, 516, 517] (by decide +kernel)
set_option maxRecDepth 20000 in
theorem li_r19 : ∀ w ∈ wsL_law0_r19, w ∈ lw_tbl := mem_ps [518, 519, 520, 521, 522, 523, 524, 525, 526, 1128, 1129, 1130, 1131, 527, 528, 529, 530, 531, 161, 1132, 1133, 1134, 1135, 1136] (by decide +kernel)
set_option maxRecDepth 20000 in
theorem li_r20 : ∀ w ∈ wsL_law0_r20, w ∈ lw_tbl := mem_ps [532, 533, 534, 535, 536, 538, 5, 539, 1137, 1138, 1139, 1140, 1141, 1143, 37, 1144, 540, 541, 542, 543, 544, 545, 546, 547] (by decide +kernel)
set_option maxRecDepth 20000 in
theorem li_r21 : ∀ w ∈ wsL_law0_r21, w ∈ lw_tbl := mem_ps [548, 549, 1145, 1146, 1147, 1148, 550, 551, 552, 553, 554, 556, 6, 557, 558, 559, 560, 561, 562, 563, 564, 565, 566, 567] (by decide +kernel)
set_option maxRecDepth 20000 in
theorem li_r22 : ∀ w ∈ wsL_law0_r22, w ∈ lw_tbl := mem_ps [568, 569, 570, 87, 105, 103, 573, 571, 574, 575, 576, 577, 578, 579, 580, 581, 582, 583, 584, 585, 586, 587, 588, 589] (by decide +kernel)
set_option maxRecDepth 20000 in
theorem li_r23 : ∀ w ∈ wsL_law0_r23, w ∈ lw_tbl := mem_ps [590, 1149, 1150, 1151, 1152, 930, 1153, 1155, 38, 1156, 1157, 1159, 39, 1160, 1161, 1163, 40, 1164, 1165, 1167, 41, 1168, 1169, 1170] (by decide +kernel)
set_option maxRecDepth 20000 in
theorem li_r24 : ∀ w ∈ wsL_law0_r24, w ∈ lw_tbl := mem_ps [1171, 591, 592, 593, 594, 595, 596, 597, 598, 93, 600, 599, 601, 602, 603, 604, 605, 607, 7, 608, 609, 610, 611, 613] (by decide +kernel)
set_option maxRecDepth 20000 in
theorem li_r25 : ∀ w ∈ wsL_law0_r25, w ∈ lw_tbl := mem_ps [8, 614, 85, 101, 615, 616, 617, 618, 619, 620, 621, 622, 624, 9, 625, 626, 628, 10, 629, 630, 631, 633, 11, 634] (by decide +kernel)
set_option maxRecDepth 20000 in
theorem li_r26 : ∀ w ∈ wsL_law0_r26, w ∈ lw_tbl := mem_ps [635, 636, 637, 638, 639, 640, 642, 12, 643, 644, 645, 646, 647, 648, 649, 650, 651, 1172, 1173, 1174, 1175, 1176, 1177, 1178] (by decide +kernel)
set_option maxRecDepth 20000 in
theorem li_r27 : ∀ w ∈ wsL_law0_r27, w ∈ lw_tbl := mem_ps [1179, 1180, 1181, 1182, 1183, 1185, 42, 1186, 652, 653, 654, 655, 182, 656, 657, 1187, 1188, 1189, 1190, 658, 659, 660, 661, 662] (by decide +kernel)
set_option maxRecDepth 20000 in
theorem li_r28 : ∀ w ∈ wsL_law0_r28, w ∈ lw_tbl := mem_ps [663, 664, 665, 666, 667, 668, 669, 1191, 1192, 1193, 1194, 1195, 1197, 43, 1198, 1199, 1201, 44, 1202, 670, 671, 672, 673, 184] (by decide +kernel)
set_option maxRecDepth 20000 in
theorem li_r29 : ∀ w ∈ wsL_law0_r29, w ∈ lw_tbl := mem_ps [186, 674, 676, 13, 677, 678, 679, 680, 681, 83, 94, 99, 682, 684, 14, 685, 686, 687, 688, 689, 690, 691, 1218, 1219] (by decide +kernel)
set_option maxRecDepth 20000 in
theorem li_r30 : ∀ w ∈ wsL_law0_r30, w ∈ lw_tbl := mem_ps [1220, 1221, 1207, 1209, 45, 1210, 943, 1211, 1213, 46, 1214, 1215, 1216, 1217, 1222, 1224, 47, 1225, 692, 693, 694, 695, 696, 697] (by decide +kernel)
set_option maxRecDepth 20000 in
theorem li_r31 : ∀ w ∈ wsL_law0_r31, w ∈ lw_tbl := mem_ps [698, 699, 700, 702, 15, 703, 704, 706, 16, 707, 708, 710, 17, 711, 712, 713, 715, 18, 716, 1226, 1227, 1228, 1229, 717] (by decide +kernel)
set_option maxRecDepth 20000 in
theorem li_r32 : ∀ w ∈ wsL_law0_r32, w ∈ lw_tbl := mem_ps [718, 719, 720, 721, 722, 723, 724, 725, 726, 727, 728, 729, 730, 731, 732, 733, 734, 735, 736, 737, 738, 739, 740, 741] (by decide +kernel)
set_option maxRecDepth 20000 in
theorem li_r33 : ∀ w ∈ wsL_law0_r33, w ∈ lw_tbl := mem_ps [743, 19, 744, 745, 747, 20, 748, 749, 751, 21, 752, 753, 755, 22, 756, 757, 758, 759, 760, 1203, 1204, 1205, 1206, 769] (by decide +kernel)
set_option maxRecDepth 20000 in
theorem li_r34 : ∀ w ∈ wsL_law0_r34, w ∈ lw_tbl := mem_ps [770, 771, 772, 773, 267, 774, 775, 776, 777, 778, 779, 780, 781, 782, 1230, 1231, 1232, 1233, 1234, 947, 783, 784, 785, 786] (by decide +kernel)
set_option maxRecDepth 20000 in
theorem li_r35 : ∀ w ∈ wsL_law0_r35, w ∈ lw_tbl := mem_ps [269, 271, 273, 787, 788, 789, 790, 1235, 1236, 1237, 1238, 791, 792, 793, 794, 291, 293, 295, 297, 299, 301, 795, 797, 23] (by decide +kernel)
set_option maxRecDepth 20000 in
theorem li_r36 : ∀ w ∈ wsL_law0_r36, w ∈ lw_tbl := mem_ps [798, 799, 800, 801, 802, 803, 804, 805, 806, 807, 808, 809, 810, 811, 812, 813, 814, 815, 816, 817, 1239, 1240, 1241, 1242] (by decide +kernel)
set_option maxRecDepth 20000 in
theorem li_r37 : ∀ w ∈ wsL_law0_r37, w ∈ lw_tbl := mem_ps [818, 819, 820, 821, 826, 822, 823, 824, 825, 1243, 1244, 1245, 1246, 1247, 761, 762, 763, 764, 1248, 1249, 1250, 1251, 933, 935] (by decide +kernel)
set_option maxRecDepth 20000 in
theorem li_r38 : ∀ w ∈ wsL_law0_r38, w ∈ lw_tbl := mem_ps [765, 766, 767, 768, 1252, 1253, 1254, 1255, 827, 828, 48, 829, 830, 831, 832, 833, 834, 836, 65, 835, 1256, 1257, 1258, 1259] (by decide +kernel)
set_option maxRecDepth 20000 in
theorem li_r39 : ∀ w ∈ wsL_law0_r39, w ∈ lw_tbl := mem_ps [1260, 1038, 1039, 1040, 1041] (by decide +kernel)
set_option maxRecDepth 20000 in
theorem li_u1 : ∀ w ∈ wsX10, w ∈ lw_tbl := mem_ps [202, 204] (by decide +kernel)
set_option maxRecDepth 20000 in
theorem li_u2 : ∀ w ∈ wsX20, w ∈ lw_tbl := mem_ps [302, 304, 306, 308, 310, 312] (by decide +kernel)
set_option maxRecDepth 20000 in
theorem li_u3 : ∀ w ∈ wsX30, w ∈ lw_tbl := mem_ps [217, 219, 221, 223] (by decide +kernel)
set_option maxRecDepth 20000 in
theorem li_u4 : ∀ w ∈ wsX40, w ∈ lw_tbl := mem_ps [106, 108, 110, 112, 114, 116, 118, 120] (by decide +kernel)
set_option maxRecDepth 20000 in
theorem li_u5 : ∀ w ∈ wsX50, w ∈ lw_tbl := mem_ps [135, 137, 139, 141, 143] (by decide +kernel)
set_option maxRecDepth 20000 in
theorem li_u6 : ∀ w ∈ wsX60, w ∈ lw_tbl := mem_ps [162, 164, 166, 168, 170, 172] (by decide +kernel)
set_option maxRecDepth 20000 in
theorem li_u7 : ∀ w ∈ wsX70, w ∈ lw_tbl := mem_ps [241, 243, 245, 247, 249, 251, 253, 255, 257] (by decide +kernel)
set_option maxRecDepth 20000 in
theorem li_u8 : ∀ w ∈ wsX80, w ∈ lw_tbl := mem_ps [187, 189, 191] (by decide +kernel)
set_option maxRecDepth 20000 in
theorem li_u9 : ∀ w ∈ wsX90, w ∈ lw_tbl := mem_ps [274, 276, 278, 280] (by decide +kernel)
set_option maxRecDepth 20000 in
theorem li_u10 : ∀ w ∈ wsX100, w ∈ lw_tbl := mem_ps [330, 332, 334, 336, 338, 340, 342, 344, 346, 348, 350, 352, 354, 356, 358] (by decide +kernel)
set_option maxRecDepth 20000 in
theorem li_u11 : ∀ w ∈ wsX110, w ∈ lw_tbl := mem_ps [952, 954, 956, 958, 960, 962, 964, 966, 968, 970, 972, 974, 976, 978, 980, 982, 984, 986, 988, 990, 992, 994, 996, 998, 1000, 1002, 1004, 1006, 1008, 1010, 1012, 1014, 1016, 1018, 1020, 1022, 1024, 1026, 1028, 1030, 1032, 1034] (by decide +kernel)
theorem wsL_law_in0 : ∀ w ∈ wsL_law0, w ∈ lw_tbl := List.forall_mem_append.mpr ⟨List.forall_mem_append.mpr ⟨List.forall_mem_append.mpr ⟨List.forall_mem_append.mpr ⟨List.forall_mem_append.mpr ⟨List.forall_mem_append.mpr ⟨List.forall_mem_append.mpr ⟨List.forall_mem_append.mpr ⟨List.forall_mem_append.mpr ⟨List.forall_mem_append.mpr ⟨List.forall_mem_append.mpr ⟨List.forall_mem_append.mpr ⟨List.forall_mem_append.mpr ⟨li_r1, List.forall_mem_append.mpr ⟨li_r2, List.forall_mem_append.mpr ⟨li_r3, List.forall_mem_append.mpr ⟨li_r4, List.forall_mem_append.mpr ⟨li_r5, List.forall_mem_append.mpr ⟨li_r6, List.forall_mem_append.mpr ⟨li_r7, List.forall_mem_append.mpr ⟨li_r8, List.forall_mem_append.mpr ⟨li_r9, List.forall_mem_append.mpr ⟨li_r10, List.forall_mem_append.mpr ⟨li_r11, List.forall_mem_append.mpr ⟨li_r12, List.forall_mem_append.mpr ⟨li_r13, List.forall_mem_append.mpr ⟨li_r14, List.forall_mem_append.mpr ⟨li_r15, List.forall_mem_append.mpr ⟨li_r16, List.forall_mem_append.mpr ⟨li_r17, List.forall_mem_append.mpr ⟨li_r18, List.forall_mem_append.mpr ⟨li_r19, List.forall_mem_append.mpr ⟨li_r20, List.forall_mem_append.mpr ⟨li_r21, List.forall_mem_append.mpr ⟨li_r22, List.forall_mem_append.mpr ⟨li_r23, List.forall_mem_append.mpr ⟨li_r24, List.forall_mem_append.mpr ⟨li_r25, List.forall_mem_append.mpr ⟨li_r26, List.forall_mem_append.mpr ⟨li_r27, List.forall_mem_append.mpr ⟨li_r28, List.forall_mem_append.mpr ⟨li_r29, List.forall_mem_append.mpr ⟨li_r30, List.forall_mem_append.mpr ⟨li_r31, List.forall_mem_append.mpr ⟨li_r32, List.forall_mem_append.mpr ⟨li_r33, List.forall_mem_append.mpr ⟨li_r34, List.forall_mem_append.mpr ⟨li_r35, List.forall_mem_append.mpr ⟨li_r36, List.forall_mem_append.mpr ⟨li_r37, List.forall_mem_append.mpr ⟨li_r38, li_r39⟩⟩⟩⟩⟩⟩⟩⟩⟩⟩⟩⟩⟩⟩⟩⟩⟩⟩⟩⟩⟩⟩⟩⟩⟩⟩⟩⟩⟩⟩⟩⟩⟩⟩⟩⟩⟩⟩, li_u10⟩, li_u11⟩, li_u4⟩, li_u5⟩, li_u6⟩, li_u8⟩, li_u1⟩, li_u3⟩, li_u7⟩, li_u9⟩, li_u2⟩, fun _ h => nomatch h⟩
