set_option maxRecDepth 20000 in
theorem ggL_law_X10_lotted : GoodIn wsL_law wsX10_lotted := goodIn_r _ [815, 48, 816, 817, 818, 819, 820, 821, 47, 822, 120, 917, 918, 919, 920, 921, 922, 923, 924, 925, 926, 927, 928, 929, 930, 931, 1011, 1012, 1013, 1014] (by decide +kernel) (by decide +kernel)
set_option maxRecDepth 20000 in
theorem gL_law_X10_lotted : GoodIn wsL_law (wsV RL 108 RX10 yX10_lotted wsX10_lotted) := goodIn_app (goodIn_of _ (by decide +kernel)) ggL_law_X10_lotted
set_option maxRecDepth 20000 in
theorem ggL_law_X11_lotted : GoodIn wsL_law wsX11_lotted := goodIn_r _ [826, 198, 811, 163, 164, 165, 203, 204, 5, 205, 932, 933, 934, 935, 936, 937, 938, 939, 940, 941, 942, 943, 944, 945, 946, 947, 948, 949, 950, 951, 952, 953, 954, 955, 956, 957, 958, 959, 960, 961, 962, 963, 964, 965, 966, 967, 968, 969, 970, 971, 972, 973] (by decide +kernel) (by decide +kernel)
set_option maxRecDepth 20000 in
theorem gL_law_X11_lotted : GoodIn wsL_law (wsV RL 111 RX11 yX11_lotted wsX11_lotted) := goodIn_app (goodIn_of _ (by decide +kernel)) ggL_law_X11_lotted
set_option maxRecDepth 20000 in
theorem ggL_law_X10_cut : GoodIn wsL_law wsX10_cut := goodIn_r _ [830, 28, 671, 48, 816, 54, 24, 52, 831, 16, 217, 832, 833, 834, 835, 36, 836, 34, 837, 838, 839, 2, 840, 817, 818, 647, 648, 649, 27, 650, 89, 819, 820, 821, 47, 822, 120, 171, 172, 173, 393, 394, 395, 15, 396, 61, 62, 58, 59, 397, 331, 284, 332, 398, 283, 285, 399, 400, 401, 402, 63, 65, 387, 291, 292, 293, 481, 337, 338, 841, 842, 843, 844, 122, 121, 124, 805, 798, 799, 800, 845, 802, 803, 804, 846, 847, 848, 23, 849, 85, 266, 82, 392, 850, 384, 385, 386, 677, 678, 679, 33, 680, 95, 681, 682, 683, 684, 685, 686, 687, 96, 688, 689, 690, 691, 692, 851, 852, 853, 854, 855, 856, 857, 858, 91, 859, 652, 653, 654, 90, 917, 918, 919, 920, 921, 922, 923, 924, 925, 926, 927, 928, 929, 930, 931, 993, 994, 995, 1011, 1012, 1013, 1014, 1015, 1016, 1017, 1018, 1019, 1020, 974, 975, 976, 977, 978, 979, 980, 981, 987, 988, 989, 990, 991, 992, 996, 997] (by decide +kernel) (by decide +kernel)
set_option maxRecDepth 20000 in
theorem gL_law_X10_cut : GoodIn wsL_law (wsV RL 112 RX10 yX10_cut wsX10_cut) := goodIn_app (goodIn_of _ (by decide +kernel)) ggL_law_X10_cut
set_option maxRecDepth 20000 in
theorem ggL_law_X11_cut : GoodIn wsL_law wsX11_cut := goodIn_r _ [863, 198, 811, 164, 163, 149, 165, 145, 199, 142, 166, 138, 159, 702, 150, 659, 660, 661, 5, 662, 211, 203, 204, 205, 420, 421, 422, 423, 201, 202, 200, 363, 331, 284, 332, 302, 283, 285, 424, 425, 426, 427, 140, 412, 413, 414, 415, 698, 699, 700, 701, 161, 160, 703, 704, 705, 706, 707, 708, 709, 663, 664, 665, 666, 932, 933, 934, 935, 936, 937, 938, 939, 940, 941, 942, 943, 944, 945, 946, 947, 948, 949, 950, 951, 952, 953, 954, 955, 956, 957, 958, 959, 960, 961, 962, 963, 964, 965, 966, 967, 968, 969, 970, 971, 972, 973] (by decide +kernel) (by decide +kernel)
set_option maxRecDepth 20000 in
theorem gL_law_X11_cut : GoodIn wsL_law (wsV RL 115 RX11 yX11_cut wsX11_cut) := goodIn_app (goodIn_of _ (by decide +kernel)) ggL_law_X11_cut
set_option maxRecDepth 20000 in
theorem ggL_law_X10_area : GoodIn wsL_law wsX10_area := goodIn_r _ [867, 52, 831, 832, 833, 834, 835, 836, 868, 869, 870, 871, 51, 872, 128, 129, 130, 917, 918, 919, 920, 921, 922, 923, 924, 925, 926, 927, 928, 929, 930, 931, 1015, 1016, 1017, 1018, 1019, 1020] (by decide +kernel) (by decide +kernel)
set_option maxRecDepth 20000 in
theorem gL_law_X10_area : GoodIn wsL_law (wsV RL 116 RX10 yX10_area wsX10_area) := goodIn_app (goodIn_of _ (by decide +kernel)) ggL_law_X10_area
set_option maxRecDepth 20000 in
theorem ggL_law_X11_area : GoodIn wsL_law wsX11_area := goodIn_r _ [876, 198, 166, 877, 203, 204, 5, 205, 932, 933, 934, 935, 936, 937, 938, 939, 940, 941, 942, 943, 944, 945, 946, 947, 948, 949, 950, 951, 952, 953, 954, 955, 956, 957, 958, 959, 960, 961, 962, 963, 964, 965, 966, 967, 968, 969, 970, 971, 972, 973] (by decide +kernel) (by decide +kernel)
set_option maxRecDepth 20000 in
theorem gL_law_X11_area : GoodIn wsL_law (wsV RL 120 RX11 yX11_area wsX11_area) := goodIn_app (goodIn_of _ (by decide +kernel)) ggL_law_X11_area
set_option maxRecDepth 20000 in
theorem ggL_law_X10_keep : GoodIn wsL_law wsX10_keep := goodIn_r _ [881, 29, 28, 53, 525, 526, 527, 27, 528, 89, 90, 91, 917, 918, 919, 920, 921, 922, 923, 924, 925, 926, 927, 928, 929, 930, 931, 993, 994, 995] (by decide +kernel) (by decide +kernel)
set_option maxRecDepth 20000 in
theorem gL_law_X10_keep : GoodIn wsL_law (wsV RL 121 RX10 yX10_keep wsX10_keep) := goodIn_app (goodIn_of _ (by decide +kernel)) ggL_law_X10_keep
set_option maxRecDepth 20000 in
theorem ggL_law_X11_keep : GoodIn wsL_law wsX11_keep := goodIn_r _ [885, 198, 886, 212, 211, 887, 149, 150, 153, 154, 550, 551, 5, 552, 932, 933, 934, 935, 936, 937, 938, 939, 940, 941, 942, 943, 944, 945, 946, 947, 948, 949, 950, 951, 952, 953, 954, 955, 956, 957, 958, 959, 960, 961, 962, 963, 964, 965, 966, 967, 968, 969, 970, 971, 972, 973] (by decide +kernel) (by decide +kernel)
set_option maxRecDepth 20000 in
theorem gL_law_X11_keep : GoodIn wsL_law (wsV RL 124 RX11 yX11_keep wsX11_keep) := goodIn_app (goodIn_of _ (by decide +kernel)) ggL_law_X11_keep
set_option maxRecDepth 20000 in
theorem ggL_law_X10_undo : GoodIn wsL_law wsX10_undo := goodIn_r _ [891, 53, 28, 29, 525, 526, 527, 27, 528, 89, 90, 91, 917, 918, 919, 920, 921, 922, 923, 924, 925, 926, 927, 928, 929, 930, 931, 993, 994, 995] (by decide +kernel) (by decide +kernel)
set_option maxRecDepth 20000 in
theorem gL_law_X10_undo : GoodIn wsL_law (wsV RL 125 RX10 yX10_undo wsX10_undo) := goodIn_app (goodIn_of _ (by decide +kernel)) ggL_law_X10_undo
set_option maxRecDepth 20000 in
theorem ggL_law_X11_undo : GoodIn wsL_law wsX11_undo := goodIn_r _ [895, 198, 886, 212, 887, 211, 153, 154, 149, 150, 550, 551, 5, 552, 932, 933, 934, 935, 936, 937, 938, 939, 940, 941, 942, 943, 944, 945, 946, 947, 948, 949, 950, 951, 952, 953, 954, 955, 956, 957, 958, 959, 960, 961, 962, 963, 964, 965, 966, 967, 968, 969, 970, 971, 972, 973] (by decide +kernel) (by decide +kernel)
set_option maxRecDepth 20000 in
theorem gL_law_X11_undo : GoodIn wsL_law (wsV RL 129 RX11 yX11_undo wsX11_undo) := goodIn_app (goodIn_of _ (by decide +kernel)) ggL_law_X11_undo
set_option maxRecDepth 20000 in
theorem ggL_law_L_share : GoodIn wsL_law wsL_share := goodIn_ca (goodIn_r _ [899, 900, 901, 902, 903, 2, 904, 905, 906, 20, 907, 16, 369, 370, 371, 19, 372, 373, 343, 344, 345, 72, 315, 316, 317, 318, 74, 73, 75, 319, 320, 321, 322, 15, 323, 58, 59, 324, 325, 326, 327, 328, 329, 330, 331, 284, 332, 333, 334, 335, 336, 71, 337, 338, 339, 340, 292, 341, 171, 172, 173, 374, 375, 376, 377, 850, 384, 385, 386, 63, 65, 387, 291, 293, 917, 918, 919, 920, 921, 922, 923, 924, 925, 926, 927, 928, 929, 930, 931, 982, 983, 984, 985, 986, 974, 975, 976, 977, 978, 979, 980, 981] (by decide +kernel) (by decide +kernel)) (goodIn_sub (fun _ h => List.mem_append_right _ h) (by decide +kernel))
set_option maxRecDepth 20000 in
theorem gL_law_L_share : GoodIn wsL_law (va_wsS RL 130 yL_share wsL_share) := goodIn_app (goodIn_of _ (by decide +kernel)) ggL_law_L_share
set_option maxRecDepth 20000 in
theorem ggL_law_X11_share : GoodIn wsL_law wsX11_share := goodIn_r _ [911, 198, 912, 147, 408, 409, 410, 5, 411, 350, 351, 352, 353, 354, 355, 356, 357, 358, 210, 138, 200, 139, 359, 360, 361, 362, 199, 148, 140, 363, 331, 284, 332, 203, 204, 205, 412, 413, 414, 415, 932, 933, 934, 935, 936, 937, 938, 939, 940, 941, 942, 943, 944, 945, 946, 947, 948, 949, 950, 951, 952, 953, 954, 955, 956, 957, 958, 959, 960, 961, 962, 963, 964, 965, 966, 967, 968, 969, 970, 971, 972, 973] (by decide +kernel) (by decide +kernel)
set_option maxRecDepth 20000 in
theorem gL_law_X11_share : GoodIn wsL_law (wsV RL 135 RX11 yX11_share wsX11_share) := goodIn_app (goodIn_of _ (by decide +kernel)) ggL_law_X11_share
set_option maxRecDepth 20000 in
theorem ggL_law_X11_thrown : GoodIn wsL_law wsX11_thrown := goodIn_r _ [916, 198, 932, 933, 934, 935, 936, 937, 938, 939, 940, 941, 942, 943, 944, 945, 946, 947, 948, 949, 950, 951, 952, 953, 954, 955, 956, 957, 958, 959, 960, 961, 962, 963, 964, 965, 966, 967, 968, 969, 970, 971, 972, 973] (by decide +kernel) (by decide +kernel)
set_option maxRecDepth 20000 in
theorem gL_law_X11_thrown : GoodIn wsL_law (wsV RL 136 RX11 yX11_thrown wsX11_thrown) := goodIn_app (goodIn_of _ (by decide +kernel)) ggL_law_X11_thrown
