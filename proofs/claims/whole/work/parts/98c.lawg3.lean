set_option maxRecDepth 20000 in
theorem ggL_law_X10_fewest : GoodIn wsL_law wsX10_fewest := goodIn_r _ [556, 20, 44, 24, 28, 30, 311, 312, 313, 19, 314, 73, 315, 316, 317, 318, 74, 72, 75, 319, 320, 321, 322, 15, 323, 58, 59, 324, 325, 326, 327, 328, 329, 330, 331, 284, 332, 333, 334, 335, 336, 71, 337, 2, 338, 339, 340, 292, 341, 342, 343, 344, 345, 557, 558, 559, 43, 560, 113, 116, 561, 108, 109, 562, 563, 279, 280, 23, 281, 81, 82, 282, 283, 285, 490, 491, 492, 493, 16, 228, 275, 278, 494, 564, 565, 566, 567, 110, 111, 114, 568, 569, 570, 571, 115, 112, 572, 573, 375, 376, 377, 574, 575, 576, 577, 578, 579, 580, 581, 384, 385, 386, 63, 65, 387, 291, 293, 582, 583, 584, 585, 586, 587, 588, 589, 590, 591, 592, 593, 594, 595, 596, 597, 598, 599, 600, 601, 602, 603, 604, 605, 606, 607, 608, 190, 191, 192, 27, 193, 89, 609, 610, 611, 612, 374, 513, 514, 515, 516, 90, 91, 517, 518, 519, 520, 521, 522, 523, 524, 613, 614, 615, 616, 525, 526, 527, 528, 917, 918, 919, 920, 921, 922, 923, 924, 925, 926, 927, 928, 929, 930, 931, 982, 983, 984, 985, 986, 974, 975, 976, 977, 978, 979, 980, 981, 1002, 1003, 1004, 1005, 1006, 1007, 1008, 1009, 1010, 987, 988, 989, 990, 991, 992, 993, 994, 995] (by decide +kernel) (by decide +kernel)
set_option maxRecDepth 20000 in
theorem gL_law_X10_fewest : GoodIn wsL_law (wsV RL 78 RX10 yX10_fewest wsX10_fewest) := goodIn_app (goodIn_of _ (by decide +kernel)) ggL_law_X10_fewest
set_option maxRecDepth 20000 in
theorem ggL_law_X11_fewest : GoodIn wsL_law wsX11_fewest := goodIn_r _ [620, 198, 199, 158, 621, 622, 623, 284, 624, 625, 626, 350, 627, 157, 147, 363, 331, 332, 533, 351, 352, 353, 5, 354, 355, 356, 357, 358, 210, 138, 200, 139, 359, 360, 361, 362, 148, 140, 298, 299, 300, 301, 141, 142, 302, 283, 285, 534, 535, 536, 537, 628, 629, 630, 631, 542, 543, 544, 545, 151, 152, 546, 547, 548, 549, 149, 150, 211, 550, 551, 552, 932, 933, 934, 935, 936, 937, 938, 939, 940, 941, 942, 943, 944, 945, 946, 947, 948, 949, 950, 951, 952, 953, 954, 955, 956, 957, 958, 959, 960, 961, 962, 963, 964, 965, 966, 967, 968, 969, 970, 971, 972, 973] (by decide +kernel) (by decide +kernel)
set_option maxRecDepth 20000 in
theorem gL_law_X11_fewest : GoodIn wsL_law (wsV RL 81 RX11 yX11_fewest wsX11_fewest) := goodIn_app (goodIn_of _ (by decide +kernel)) ggL_law_X11_fewest
set_option maxRecDepth 20000 in
theorem ggL_law_X10_slot : GoodIn wsL_law wsX10_slot := goodIn_r _ [635, 20, 28, 636, 369, 370, 371, 19, 372, 373, 343, 344, 345, 72, 315, 316, 317, 318, 74, 73, 75, 319, 320, 321, 322, 15, 323, 58, 59, 324, 325, 326, 327, 328, 329, 330, 331, 284, 332, 333, 334, 335, 336, 71, 337, 2, 338, 339, 340, 292, 341, 171, 172, 173, 637, 518, 519, 27, 520, 89, 374, 375, 376, 377, 638, 522, 523, 524, 90, 91, 517, 917, 918, 919, 920, 921, 922, 923, 924, 925, 926, 927, 928, 929, 930, 931, 993, 994, 995, 982, 983, 984, 985, 986, 974, 975, 976, 977, 978, 979, 980, 981] (by decide +kernel) (by decide +kernel)
set_option maxRecDepth 20000 in
theorem gL_law_X10_slot : GoodIn wsL_law (wsV RL 82 RX10 yX10_slot wsX10_slot) := goodIn_app (goodIn_of _ (by decide +kernel)) ggL_law_X10_slot
set_option maxRecDepth 20000 in
theorem ggL_law_X11_slot : GoodIn wsL_law wsX11_slot := goodIn_r _ [642, 198, 211, 149, 147, 150, 408, 409, 410, 5, 411, 350, 351, 352, 353, 354, 355, 356, 357, 358, 210, 138, 200, 139, 359, 360, 361, 362, 199, 148, 140, 363, 331, 284, 332, 203, 204, 205, 932, 933, 934, 935, 936, 937, 938, 939, 940, 941, 942, 943, 944, 945, 946, 947, 948, 949, 950, 951, 952, 953, 954, 955, 956, 957, 958, 959, 960, 961, 962, 963, 964, 965, 966, 967, 968, 969, 970, 971, 972, 973] (by decide +kernel) (by decide +kernel)
set_option maxRecDepth 20000 in
theorem gL_law_X11_slot : GoodIn wsL_law (wsV RL 85 RX11 yX11_slot wsX11_slot) := goodIn_app (goodIn_of _ (by decide +kernel)) ggL_law_X11_slot
set_option maxRecDepth 20000 in
theorem ggL_law_X10_drop : GoodIn wsL_law wsX10_drop := goodIn_r _ [646, 28, 190, 191, 192, 27, 193, 89, 647, 648, 649, 650, 651, 652, 653, 654, 90, 91, 917, 918, 919, 920, 921, 922, 923, 924, 925, 926, 927, 928, 929, 930, 931, 993, 994, 995] (by decide +kernel) (by decide +kernel)
set_option maxRecDepth 20000 in
theorem gL_law_X10_drop : GoodIn wsL_law (wsV RL 86 RX10 yX10_drop wsX10_drop) := goodIn_app (goodIn_of _ (by decide +kernel)) ggL_law_X10_drop
set_option maxRecDepth 20000 in
theorem ggL_law_X11_drop : GoodIn wsL_law wsX11_drop := goodIn_r _ [658, 198, 211, 659, 660, 661, 5, 662, 203, 204, 205, 663, 664, 665, 666, 149, 150, 932, 933, 934, 935, 936, 937, 938, 939, 940, 941, 942, 943, 944, 945, 946, 947, 948, 949, 950, 951, 952, 953, 954, 955, 956, 957, 958, 959, 960, 961, 962, 963, 964, 965, 966, 967, 968, 969, 970, 971, 972, 973] (by decide +kernel) (by decide +kernel)
set_option maxRecDepth 20000 in
theorem gL_law_X11_drop : GoodIn wsL_law (wsV RL 89 RX11 yX11_drop wsX11_drop) := goodIn_app (goodIn_of _ (by decide +kernel)) ggL_law_X11_drop
set_option maxRecDepth 20000 in
theorem ggL_law_X10_slotted : GoodIn wsL_law wsX10_slotted := goodIn_r _ [670, 28, 671, 672, 16, 228, 647, 648, 649, 27, 650, 89, 379, 380, 381, 15, 382, 58, 383, 384, 385, 386, 63, 65, 387, 291, 292, 293, 673, 674, 675, 2, 676, 36, 34, 35, 677, 678, 679, 33, 680, 95, 681, 682, 683, 684, 685, 686, 687, 96, 688, 689, 690, 691, 692, 693, 583, 584, 585, 171, 172, 173, 378, 917, 918, 919, 920, 921, 922, 923, 924, 925, 926, 927, 928, 929, 930, 931, 993, 994, 995, 974, 975, 976, 977, 978, 979, 980, 981, 996, 997] (by decide +kernel) (by decide +kernel)
set_option maxRecDepth 20000 in
theorem gL_law_X10_slotted : GoodIn wsL_law (wsV RL 90 RX10 yX10_slotted wsX10_slotted) := goodIn_app (goodIn_of _ (by decide +kernel)) ggL_law_X10_slotted
set_option maxRecDepth 20000 in
theorem ggL_law_X11_slotted : GoodIn wsL_law wsX11_slotted := goodIn_r _ [697, 198, 149, 150, 138, 659, 660, 661, 5, 662, 211, 203, 204, 205, 254, 255, 256, 257, 199, 412, 413, 414, 415, 140, 698, 699, 700, 701, 161, 159, 702, 160, 703, 704, 705, 706, 200, 707, 708, 709, 710, 711, 712, 713, 932, 933, 934, 935, 936, 937, 938, 939, 940, 941, 942, 943, 944, 945, 946, 947, 948, 949, 950, 951, 952, 953, 954, 955, 956, 957, 958, 959, 960, 961, 962, 963, 964, 965, 966, 967, 968, 969, 970, 971, 972, 973] (by decide +kernel) (by decide +kernel)
set_option maxRecDepth 20000 in
theorem gL_law_X11_slotted : GoodIn wsL_law (wsV RL 93 RX11 yX11_slotted wsX11_slotted) := goodIn_app (goodIn_of _ (by decide +kernel)) ggL_law_X11_slotted
set_option maxRecDepth 20000 in
theorem ggL_law_X10_plan : GoodIn wsL_law wsX10_plan := goodIn_r _ [717, 28, 636, 718, 719, 720, 27, 721, 89, 91, 722, 723, 724, 2, 725, 672, 16, 671, 379, 380, 381, 15, 382, 58, 383, 384, 385, 386, 63, 65, 387, 291, 292, 293, 726, 727, 728, 729, 673, 674, 675, 676, 36, 34, 35, 677, 678, 679, 33, 680, 95, 681, 682, 683, 684, 685, 686, 687, 96, 688, 689, 690, 691, 692, 730, 731, 732, 733, 228, 24, 734, 283, 284, 285, 278, 279, 280, 23, 281, 81, 82, 282, 286, 287, 288, 289, 90, 290, 735, 736, 737, 738, 917, 918, 919, 920, 921, 922, 923, 924, 925, 926, 927, 928, 929, 930, 931, 993, 994, 995, 974, 975, 976, 977, 978, 979, 980, 981, 996, 997, 987, 988, 989, 990, 991, 992] (by decide +kernel) (by decide +kernel)
set_option maxRecDepth 20000 in
theorem gL_law_X10_plan : GoodIn wsL_law (wsV RL 94 RX10 yX10_plan wsX10_plan) := goodIn_app (goodIn_of _ (by decide +kernel)) ggL_law_X10_plan
set_option maxRecDepth 20000 in
theorem ggL_law_X11_plan : GoodIn wsL_law wsX11_plan := goodIn_r _ [742, 198, 211, 150, 138, 149, 199, 302, 283, 284, 285, 412, 413, 414, 5, 415, 140, 698, 699, 700, 701, 161, 159, 702, 160, 703, 704, 705, 706, 200, 707, 708, 709, 298, 299, 300, 301, 141, 142, 303, 304, 305, 306, 932, 933, 934, 935, 936, 937, 938, 939, 940, 941, 942, 943, 944, 945, 946, 947, 948, 949, 950, 951, 952, 953, 954, 955, 956, 957, 958, 959, 960, 961, 962, 963, 964, 965, 966, 967, 968, 969, 970, 971, 972, 973] (by decide +kernel) (by decide +kernel)
set_option maxRecDepth 20000 in
theorem gL_law_X11_plan : GoodIn wsL_law (wsV RL 98 RX11 yX11_plan wsX11_plan) := goodIn_app (goodIn_of _ (by decide +kernel)) ggL_law_X11_plan
set_option maxRecDepth 20000 in
theorem ggL_law_X10_line : GoodIn wsL_law wsX10_line := goodIn_r _ [746, 28, 636, 40, 36, 16, 671, 34, 35, 30, 672, 747, 748, 749, 39, 750, 751, 331, 284, 332, 100, 677, 678, 679, 33, 680, 95, 681, 682, 683, 684, 685, 686, 687, 96, 688, 291, 292, 293, 689, 690, 691, 692, 752, 753, 754, 755, 101, 756, 757, 758, 759, 760, 761, 762, 763, 102, 764, 765, 766, 767, 768, 769, 770, 771, 772, 773, 774, 775, 776, 777, 778, 103, 779, 780, 781, 782, 525, 526, 527, 27, 528, 89, 90, 91, 190, 191, 192, 193, 783, 784, 785, 786, 638, 522, 523, 524, 517, 518, 519, 520, 917, 918, 919, 920, 921, 922, 923, 924, 925, 926, 927, 928, 929, 930, 931, 993, 994, 995, 998, 999, 1000, 1001, 996, 997, 974, 975, 976, 977, 978, 979, 980, 981] (by decide +kernel) (by decide +kernel)
set_option maxRecDepth 20000 in
theorem gL_law_X10_line : GoodIn wsL_law (wsV RL 99 RX10 yX10_line wsX10_line) := goodIn_app (goodIn_of _ (by decide +kernel)) ggL_law_X10_line
set_option maxRecDepth 20000 in
theorem ggL_law_X11_line : GoodIn wsL_law wsX11_line := goodIn_r _ [790, 198, 211, 162, 455, 363, 331, 284, 332, 149, 150, 151, 152, 64, 698, 699, 700, 5, 701, 161, 159, 702, 160, 703, 704, 705, 706, 200, 199, 140, 707, 708, 709, 550, 551, 552, 932, 933, 934, 935, 936, 937, 938, 939, 940, 941, 942, 943, 944, 945, 946, 947, 948, 949, 950, 951, 952, 953, 954, 955, 956, 957, 958, 959, 960, 961, 962, 963, 964, 965, 966, 967, 968, 969, 970, 971, 972, 973] (by decide +kernel) (by decide +kernel)
set_option maxRecDepth 20000 in
theorem gL_law_X11_line : GoodIn wsL_law (wsV RL 102 RX11 yX11_line wsX11_line) := goodIn_app (goodIn_of _ (by decide +kernel)) ggL_law_X11_line
set_option maxRecDepth 20000 in
theorem ggL_law_X10_lot : GoodIn wsL_law wsX10_lot := goodIn_r _ [794, 795, 48, 796, 171, 172, 2, 173, 797, 798, 799, 47, 800, 120, 801, 802, 803, 804, 121, 122, 124, 805, 917, 918, 919, 920, 921, 922, 923, 924, 925, 926, 927, 928, 929, 930, 931, 1011, 1012, 1013, 1014] (by decide +kernel) (by decide +kernel)
set_option maxRecDepth 20000 in
theorem gL_law_X10_lot : GoodIn wsL_law (wsV RL 103 RX10 yX10_lot wsX10_lot) := goodIn_app (goodIn_of _ (by decide +kernel)) ggL_law_X10_lot
set_option maxRecDepth 20000 in
theorem ggL_law_X11_lot : GoodIn wsL_law wsX11_lot := goodIn_r _ [809, 198, 810, 811, 163, 164, 165, 203, 204, 5, 205, 932, 933, 934, 935, 936, 937, 938, 939, 940, 941, 942, 943, 944, 945, 946, 947, 948, 949, 950, 951, 952, 953, 954, 955, 956, 957, 958, 959, 960, 961, 962, 963, 964, 965, 966, 967, 968, 969, 970, 971, 972, 973] (by decide +kernel) (by decide +kernel)
set_option maxRecDepth 20000 in
theorem gL_law_X11_lot : GoodIn wsL_law (wsV RL 107 RX11 yX11_lot wsX11_lot) := goodIn_app (goodIn_of _ (by decide +kernel)) ggL_law_X11_lot
