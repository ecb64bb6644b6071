set_option maxRecDepth 20000 in
theorem ggL_law_X10_init : GoodIn wsL_law wsX10_init := goodIn_r _ [9, 10, 11, 12, 13, 14, 15, 16, 17, 18, 19, 20, 21, 22, 23, 24, 25, 26, 27, 28, 29, 30, 31, 32, 33, 34, 35, 36, 37, 38, 39, 40, 41, 42, 43, 44, 45, 46, 47, 48, 49, 50, 51, 52, 53, 54, 55, 56, 57, 58, 59, 60, 61, 62, 63, 64, 65, 66, 67, 68, 69, 70, 71, 72, 73, 74, 75, 76, 77, 78, 79, 80, 81, 82, 83, 84, 85, 86, 87, 88, 89, 90, 91, 92, 93, 94, 95, 96, 97, 98, 99, 100, 101, 102, 103, 104, 105, 106, 107, 108, 109, 110, 111, 112, 113, 114, 115, 116, 117, 118, 119, 120, 121, 122, 123, 124, 125, 126, 127, 128, 129, 130, 131, 132, 133, 974, 975, 976, 977, 978, 979, 980, 981, 917, 918, 919, 920, 921, 922, 923, 924, 925, 926, 927, 928, 929, 930, 931, 982, 983, 984, 985, 986, 987, 988, 989, 990, 991, 992, 993, 994, 995, 996, 997, 998, 999, 1000, 1001, 1002, 1003, 1004, 1005, 1006, 1007, 1008, 1009, 1010, 1011, 1012, 1013, 1014, 1015, 1016, 1017, 1018, 1019, 1020] (by decide +kernel) (by decide +kernel)
set_option maxRecDepth 20000 in
theorem gL_law_X10_init : GoodIn wsL_law (wsX10_init) := ggL_law_X10_init
set_option maxRecDepth 20000 in
theorem ggL_law_X11_init : GoodIn wsL_law wsX11_init := goodIn_r _ [136, 137, 11, 12, 138, 139, 64, 140, 141, 142, 143, 144, 145, 146, 147, 148, 149, 150, 151, 152, 153, 154, 155, 156, 157, 158, 159, 160, 161, 162, 163, 164, 123, 165, 6, 166, 932, 933, 934, 935, 936, 937, 938, 939, 940, 941, 942, 943, 944, 945, 946, 947, 948, 949, 950, 951, 952, 953, 954, 955, 956, 957, 958, 959, 960, 961, 962, 963, 964, 965, 966, 967, 968, 969, 970, 971, 972, 973] (by decide +kernel) (by decide +kernel)
set_option maxRecDepth 20000 in
theorem gL_law_X11_init : GoodIn wsL_law (wsX11_init) := ggL_law_X11_init
set_option maxRecDepth 20000 in
theorem ggL_law_X10_mill : GoodIn wsL_law wsX10_mill := goodIn_r _ [170, 16, 171, 172, 2, 173, 174, 175, 176, 15, 177, 63, 65, 66, 178, 179, 180, 181, 58, 59, 60, 61, 62, 182, 183, 184, 185, 20, 28, 53, 186, 187, 188, 19, 189, 74, 190, 191, 192, 27, 193, 89, 917, 918, 919, 920, 921, 922, 923, 924, 925, 926, 927, 928, 929, 930, 931, 974, 975, 976, 977, 978, 979, 980, 981, 982, 983, 984, 985, 986, 993, 994, 995] (by decide +kernel) (by decide +kernel)
set_option maxRecDepth 20000 in
theorem gL_law_X10_mill : GoodIn wsL_law (wsV RL 19 RX10 yX10_mill wsX10_mill) := goodIn_app (goodIn_of _ (by decide +kernel)) ggL_law_X10_mill
set_option maxRecDepth 20000 in
theorem ggL_law_X11_mill : GoodIn wsL_law wsX11_mill := goodIn_r _ [197, 198, 199, 140, 138, 200, 139, 201, 202, 203, 204, 5, 205, 206, 207, 208, 209, 210, 211, 212, 932, 933, 934, 935, 936, 937, 938, 939, 940, 941, 942, 943, 944, 945, 946, 947, 948, 949, 950, 951, 952, 953, 954, 955, 956, 957, 958, 959, 960, 961, 962, 963, 964, 965, 966, 967, 968, 969, 970, 971, 972, 973] (by decide +kernel) (by decide +kernel)
set_option maxRecDepth 20000 in
theorem gL_law_X11_mill : GoodIn wsL_law (wsV RL 23 RX11 yX11_mill wsX11_mill) := goodIn_app (goodIn_of _ (by decide +kernel)) ggL_law_X11_mill
set_option maxRecDepth 20000 in
theorem ggL_law_X10_strip : GoodIn wsL_law wsX10_strip := goodIn_r _ [216, 16, 217, 218, 219, 917, 918, 919, 920, 921, 922, 923, 924, 925, 926, 927, 928, 929, 930, 931, 974, 975, 976, 977, 978, 979, 980, 981] (by decide +kernel) (by decide +kernel)
set_option maxRecDepth 20000 in
theorem gL_law_X10_strip : GoodIn wsL_law (wsV RL 24 RX10 yX10_strip wsX10_strip) := goodIn_app (goodIn_of _ (by decide +kernel)) ggL_law_X10_strip
set_option maxRecDepth 20000 in
theorem ggL_law_X11_strip : GoodIn wsL_law wsX11_strip := goodIn_r _ [223, 198, 138, 201, 202, 932, 933, 934, 935, 936, 937, 938, 939, 940, 941, 942, 943, 944, 945, 946, 947, 948, 949, 950, 951, 952, 953, 954, 955, 956, 957, 958, 959, 960, 961, 962, 963, 964, 965, 966, 967, 968, 969, 970, 971, 972, 973] (by decide +kernel) (by decide +kernel)
set_option maxRecDepth 20000 in
theorem gL_law_X11_strip : GoodIn wsL_law (wsV RL 28 RX11 yX11_strip wsX11_strip) := goodIn_app (goodIn_of _ (by decide +kernel)) ggL_law_X11_strip
set_option maxRecDepth 20000 in
theorem ggL_law_X10_width : GoodIn wsL_law wsX10_width := goodIn_r _ [227, 16, 217, 228, 24, 229, 171, 172, 2, 173, 230, 231, 232, 15, 233, 63, 65, 234, 235, 236, 237, 66, 182, 183, 184, 185, 20, 28, 53, 186, 187, 188, 19, 189, 74, 190, 191, 192, 27, 193, 89, 917, 918, 919, 920, 921, 922, 923, 924, 925, 926, 927, 928, 929, 930, 931, 974, 975, 976, 977, 978, 979, 980, 981, 987, 988, 989, 990, 991, 992, 982, 983, 984, 985, 986, 993, 994, 995] (by decide +kernel) (by decide +kernel)
set_option maxRecDepth 20000 in
theorem gL_law_X10_width : GoodIn wsL_law (wsV RL 29 RX10 yX10_width wsX10_width) := goodIn_app (goodIn_of _ (by decide +kernel)) ggL_law_X10_width
set_option maxRecDepth 20000 in
theorem ggL_law_X11_width : GoodIn wsL_law wsX11_width := goodIn_r _ [241, 198, 138, 199, 140, 141, 203, 204, 5, 205, 206, 207, 208, 209, 210, 211, 212, 932, 933, 934, 935, 936, 937, 938, 939, 940, 941, 942, 943, 944, 945, 946, 947, 948, 949, 950, 951, 952, 953, 954, 955, 956, 957, 958, 959, 960, 961, 962, 963, 964, 965, 966, 967, 968, 969, 970, 971, 972, 973] (by decide +kernel) (by decide +kernel)
set_option maxRecDepth 20000 in
theorem gL_law_X11_width : GoodIn wsL_law (wsV RL 33 RX11 yX11_width wsX11_width) := goodIn_app (goodIn_of _ (by decide +kernel)) ggL_law_X11_width
set_option maxRecDepth 20000 in
theorem ggL_law_X10_order : GoodIn wsL_law wsX10_order := goodIn_r _ [245, 16, 24, 229, 246, 247, 248, 15, 249, 63, 171, 172, 2, 173, 917, 918, 919, 920, 921, 922, 923, 924, 925, 926, 927, 928, 929, 930, 931, 987, 988, 989, 990, 991, 992, 974, 975, 976, 977, 978, 979, 980, 981] (by decide +kernel) (by decide +kernel)
set_option maxRecDepth 20000 in
theorem gL_law_X10_order : GoodIn wsL_law (wsV RL 34 RX10 yX10_order wsX10_order) := goodIn_app (goodIn_of _ (by decide +kernel)) ggL_law_X10_order
set_option maxRecDepth 20000 in
theorem ggL_law_X11_order : GoodIn wsL_law wsX11_order := goodIn_r _ [253, 198, 141, 254, 255, 256, 5, 257, 199, 203, 204, 205, 932, 933, 934, 935, 936, 937, 938, 939, 940, 941, 942, 943, 944, 945, 946, 947, 948, 949, 950, 951, 952, 953, 954, 955, 956, 957, 958, 959, 960, 961, 962, 963, 964, 965, 966, 967, 968, 969, 970, 971, 972, 973] (by decide +kernel) (by decide +kernel)
set_option maxRecDepth 20000 in
theorem gL_law_X11_order : GoodIn wsL_law (wsV RL 37 RX11 yX11_order wsX11_order) := goodIn_app (goodIn_of _ (by decide +kernel)) ggL_law_X11_order
set_option maxRecDepth 20000 in
theorem ggL_law_X10_length : GoodIn wsL_law wsX10_length := goodIn_r _ [261, 24, 54, 171, 172, 2, 173, 262, 263, 264, 23, 265, 85, 266, 82, 917, 918, 919, 920, 921, 922, 923, 924, 925, 926, 927, 928, 929, 930, 931, 987, 988, 989, 990, 991, 992, 974, 975, 976, 977, 978, 979, 980, 981] (by decide +kernel) (by decide +kernel)
set_option maxRecDepth 20000 in
theorem gL_law_X10_length : GoodIn wsL_law (wsV RL 38 RX10 yX10_length wsX10_length) := goodIn_app (goodIn_of _ (by decide +kernel)) ggL_law_X10_length
set_option maxRecDepth 20000 in
theorem ggL_law_X11_length : GoodIn wsL_law wsX11_length := goodIn_r _ [270, 198, 199, 142, 145, 203, 204, 5, 205, 932, 933, 934, 935, 936, 937, 938, 939, 940, 941, 942, 943, 944, 945, 946, 947, 948, 949, 950, 951, 952, 953, 954, 955, 956, 957, 958, 959, 960, 961, 962, 963, 964, 965, 966, 967, 968, 969, 970, 971, 972, 973] (by decide +kernel) (by decide +kernel)
set_option maxRecDepth 20000 in
theorem gL_law_X11_length : GoodIn wsL_law (wsV RL 42 RX11 yX11_length wsX11_length) := goodIn_app (goodIn_of _ (by decide +kernel)) ggL_law_X11_length
set_option maxRecDepth 20000 in
theorem ggL_law_X10_about : GoodIn wsL_law wsX10_about := goodIn_r _ [274, 16, 275, 24, 229, 276, 277, 28, 246, 247, 248, 15, 249, 63, 278, 279, 280, 23, 281, 81, 82, 282, 283, 284, 285, 286, 287, 288, 27, 289, 89, 91, 90, 290, 291, 292, 293, 917, 918, 919, 920, 921, 922, 923, 924, 925, 926, 927, 928, 929, 930, 931, 974, 975, 976, 977, 978, 979, 980, 981, 987, 988, 989, 990, 991, 992, 993, 994, 995] (by decide +kernel) (by decide +kernel)
set_option maxRecDepth 20000 in
theorem gL_law_X10_about : GoodIn wsL_law (wsV RL 43 RX10 yX10_about wsX10_about) := goodIn_app (goodIn_of _ (by decide +kernel)) ggL_law_X10_about
set_option maxRecDepth 20000 in
theorem ggL_law_X11_about : GoodIn wsL_law wsX11_about := goodIn_r _ [297, 198, 140, 141, 142, 143, 254, 255, 256, 5, 257, 199, 203, 204, 205, 298, 299, 300, 301, 302, 283, 284, 285, 303, 304, 305, 306, 211, 149, 150, 932, 933, 934, 935, 936, 937, 938, 939, 940, 941, 942, 943, 944, 945, 946, 947, 948, 949, 950, 951, 952, 953, 954, 955, 956, 957, 958, 959, 960, 961, 962, 963, 964, 965, 966, 967, 968, 969, 970, 971, 972, 973] (by decide +kernel) (by decide +kernel)
set_option maxRecDepth 20000 in
theorem gL_law_X11_about : GoodIn wsL_law (wsV RL 46 RX11 yX11_about wsX11_about) := goodIn_app (goodIn_of _ (by decide +kernel)) ggL_law_X11_about
