set_option maxRecDepth 20000 in
theorem ggL_law_X10_patterns : GoodIn wsL_law wsX10_patterns := goodIn_r _ [310, 20, 311, 312, 313, 19, 314, 73, 315, 316, 317, 318, 74, 72, 75, 319, 320, 321, 322, 15, 323, 58, 59, 324, 325, 326, 327, 328, 329, 330, 331, 284, 332, 333, 334, 335, 336, 71, 337, 2, 338, 339, 340, 292, 341, 342, 343, 344, 345, 917, 918, 919, 920, 921, 922, 923, 924, 925, 926, 927, 928, 929, 930, 931, 982, 983, 984, 985, 986, 974, 975, 976, 977, 978, 979, 980, 981] (by decide +kernel) (by decide +kernel)
set_option maxRecDepth 20000 in
theorem gL_law_X10_patterns : GoodIn wsL_law (wsV RL 47 RX10 yX10_patterns wsX10_patterns) := goodIn_app (goodIn_of _ (by decide +kernel)) ggL_law_X10_patterns
set_option maxRecDepth 20000 in
theorem ggL_law_X11_patterns : GoodIn wsL_law wsX11_patterns := goodIn_r _ [349, 198, 350, 351, 352, 353, 5, 354, 355, 356, 357, 358, 210, 138, 200, 139, 359, 360, 361, 362, 199, 147, 148, 140, 363, 331, 284, 332, 932, 933, 934, 935, 936, 937, 938, 939, 940, 941, 942, 943, 944, 945, 946, 947, 948, 949, 950, 951, 952, 953, 954, 955, 956, 957, 958, 959, 960, 961, 962, 963, 964, 965, 966, 967, 968, 969, 970, 971, 972, 973] (by decide +kernel) (by decide +kernel)
set_option maxRecDepth 20000 in
theorem gL_law_X11_patterns : GoodIn wsL_law (wsV RL 51 RX11 yX11_patterns wsX11_patterns) := goodIn_app (goodIn_of _ (by decide +kernel)) ggL_law_X11_patterns
set_option maxRecDepth 20000 in
theorem ggL_law_X10_pattern : GoodIn wsL_law wsX10_pattern := goodIn_r _ [367, 20, 368, 16, 24, 369, 370, 371, 19, 372, 373, 343, 344, 345, 72, 315, 316, 317, 318, 74, 73, 75, 319, 320, 321, 322, 15, 323, 58, 59, 324, 325, 326, 327, 328, 329, 330, 331, 284, 332, 333, 334, 335, 336, 71, 337, 2, 338, 339, 340, 292, 341, 374, 375, 376, 377, 246, 247, 248, 249, 63, 378, 291, 293, 379, 380, 381, 382, 383, 384, 385, 386, 65, 387, 388, 389, 390, 23, 391, 85, 266, 83, 392, 393, 394, 395, 396, 61, 62, 397, 398, 283, 285, 399, 400, 401, 402, 917, 918, 919, 920, 921, 922, 923, 924, 925, 926, 927, 928, 929, 930, 931, 982, 983, 984, 985, 986, 974, 975, 976, 977, 978, 979, 980, 981, 987, 988, 989, 990, 991, 992] (by decide +kernel) (by decide +kernel)
set_option maxRecDepth 20000 in
theorem gL_law_X10_pattern : GoodIn wsL_law (wsV RL 52 RX10 yX10_pattern wsX10_pattern) := goodIn_app (goodIn_of _ (by decide +kernel)) ggL_law_X10_pattern
set_option maxRecDepth 20000 in
theorem ggL_law_X11_pattern : GoodIn wsL_law wsX11_pattern := goodIn_r _ [406, 198, 407, 147, 138, 408, 409, 410, 5, 411, 350, 351, 352, 353, 354, 355, 356, 357, 358, 210, 200, 139, 359, 360, 361, 362, 199, 148, 140, 363, 331, 284, 332, 203, 204, 205, 254, 255, 256, 257, 412, 413, 414, 415, 416, 417, 418, 419, 143, 420, 421, 422, 423, 201, 202, 302, 283, 285, 424, 425, 426, 427, 932, 933, 934, 935, 936, 937, 938, 939, 940, 941, 942, 943, 944, 945, 946, 947, 948, 949, 950, 951, 952, 953, 954, 955, 956, 957, 958, 959, 960, 961, 962, 963, 964, 965, 966, 967, 968, 969, 970, 971, 972, 973] (by decide +kernel) (by decide +kernel)
set_option maxRecDepth 20000 in
theorem gL_law_X11_pattern : GoodIn wsL_law (wsV RL 56 RX11 yX11_pattern wsX11_pattern) := goodIn_app (goodIn_of _ (by decide +kernel)) ggL_law_X11_pattern
set_option maxRecDepth 20000 in
theorem ggL_law_X10_find : GoodIn wsL_law wsX10_find := goodIn_r _ [431, 20, 432, 433, 2, 434, 171, 172, 173, 435, 340, 292, 341, 436, 437, 438, 19, 439, 71, 373, 343, 344, 345, 72, 315, 316, 317, 318, 74, 73, 75, 319, 320, 321, 322, 15, 323, 58, 59, 324, 325, 326, 327, 328, 329, 330, 331, 284, 332, 333, 334, 335, 336, 337, 338, 339, 440, 370, 371, 372, 917, 918, 919, 920, 921, 922, 923, 924, 925, 926, 927, 928, 929, 930, 931, 982, 983, 984, 985, 986, 974, 975, 976, 977, 978, 979, 980, 981] (by decide +kernel) (by decide +kernel)
set_option maxRecDepth 20000 in
theorem gL_law_X10_find : GoodIn wsL_law (wsV RL 57 RX10 yX10_find wsX10_find) := goodIn_app (goodIn_of _ (by decide +kernel)) ggL_law_X10_find
set_option maxRecDepth 20000 in
theorem ggL_law_X11_find : GoodIn wsL_law wsX11_find := goodIn_r _ [444, 198, 350, 147, 351, 352, 353, 5, 354, 355, 356, 357, 358, 210, 138, 200, 139, 359, 360, 361, 362, 199, 148, 140, 363, 331, 284, 332, 932, 933, 934, 935, 936, 937, 938, 939, 940, 941, 942, 943, 944, 945, 946, 947, 948, 949, 950, 951, 952, 953, 954, 955, 956, 957, 958, 959, 960, 961, 962, 963, 964, 965, 966, 967, 968, 969, 970, 971, 972, 973] (by decide +kernel) (by decide +kernel)
set_option maxRecDepth 20000 in
theorem gL_law_X11_find : GoodIn wsL_law (wsV RL 61 RX11 yX11_find wsX11_find) := goodIn_app (goodIn_of _ (by decide +kernel)) ggL_law_X11_find
set_option maxRecDepth 20000 in
theorem ggL_law_X10_price : GoodIn wsL_law wsX10_price := goodIn_r _ [448, 449, 24, 450, 16, 277, 171, 172, 2, 173, 246, 247, 248, 15, 249, 63, 917, 918, 919, 920, 921, 922, 923, 924, 925, 926, 927, 928, 929, 930, 931, 987, 988, 989, 990, 991, 992, 974, 975, 976, 977, 978, 979, 980, 981] (by decide +kernel) (by decide +kernel)
set_option maxRecDepth 20000 in
theorem gL_law_X10_price : GoodIn wsL_law (wsV RL 62 RX10 yX10_price wsX10_price) := goodIn_app (goodIn_of _ (by decide +kernel)) ggL_law_X10_price
set_option maxRecDepth 20000 in
theorem ggL_law_X11_price : GoodIn wsL_law wsX11_price := goodIn_r _ [454, 198, 455, 144, 143, 203, 204, 5, 205, 254, 255, 256, 257, 199, 932, 933, 934, 935, 936, 937, 938, 939, 940, 941, 942, 943, 944, 945, 946, 947, 948, 949, 950, 951, 952, 953, 954, 955, 956, 957, 958, 959, 960, 961, 962, 963, 964, 965, 966, 967, 968, 969, 970, 971, 972, 973] (by decide +kernel) (by decide +kernel)
set_option maxRecDepth 20000 in
theorem gL_law_X11_price : GoodIn wsL_law (wsV RL 65 RX11 yX11_price wsX11_price) := goodIn_app (goodIn_of _ (by decide +kernel)) ggL_law_X11_price
set_option maxRecDepth 20000 in
theorem ggL_law_X10_best : GoodIn wsL_law wsX10_best := goodIn_r _ [459, 20, 311, 312, 313, 19, 314, 73, 315, 316, 317, 318, 74, 72, 75, 319, 320, 321, 322, 15, 323, 58, 59, 324, 325, 326, 327, 328, 329, 330, 331, 284, 332, 333, 334, 335, 336, 71, 337, 2, 338, 339, 340, 292, 341, 460, 461, 462, 463, 24, 342, 343, 344, 345, 374, 375, 376, 377, 388, 389, 390, 23, 391, 85, 266, 83, 392, 291, 293, 917, 918, 919, 920, 921, 922, 923, 924, 925, 926, 927, 928, 929, 930, 931, 982, 983, 984, 985, 986, 974, 975, 976, 977, 978, 979, 980, 981, 987, 988, 989, 990, 991, 992] (by decide +kernel) (by decide +kernel)
set_option maxRecDepth 20000 in
theorem gL_law_X10_best : GoodIn wsL_law (wsV RL 66 RX10 yX10_best wsX10_best) := goodIn_app (goodIn_of _ (by decide +kernel)) ggL_law_X10_best
set_option maxRecDepth 20000 in
theorem ggL_law_X11_best : GoodIn wsL_law wsX11_best := goodIn_r _ [467, 198, 351, 352, 353, 5, 354, 350, 355, 356, 357, 358, 210, 138, 200, 139, 359, 360, 361, 362, 199, 147, 148, 140, 363, 331, 284, 332, 468, 469, 470, 471, 416, 417, 418, 419, 143, 932, 933, 934, 935, 936, 937, 938, 939, 940, 941, 942, 943, 944, 945, 946, 947, 948, 949, 950, 951, 952, 953, 954, 955, 956, 957, 958, 959, 960, 961, 962, 963, 964, 965, 966, 967, 968, 969, 970, 971, 972, 973] (by decide +kernel) (by decide +kernel)
set_option maxRecDepth 20000 in
theorem gL_law_X11_best : GoodIn wsL_law (wsV RL 69 RX11 yX11_best wsX11_best) := goodIn_app (goodIn_of _ (by decide +kernel)) ggL_law_X11_best
set_option maxRecDepth 20000 in
theorem ggL_law_X10_bound : GoodIn wsL_law wsX10_bound := goodIn_r _ [475, 20, 24, 450, 311, 312, 313, 19, 314, 73, 315, 316, 317, 318, 74, 72, 75, 319, 320, 321, 322, 15, 323, 58, 59, 324, 325, 326, 327, 328, 329, 330, 331, 284, 332, 333, 334, 335, 336, 71, 337, 2, 338, 339, 340, 292, 341, 460, 461, 462, 463, 342, 343, 344, 345, 374, 375, 376, 377, 388, 389, 390, 23, 391, 85, 266, 83, 392, 291, 293, 476, 477, 478, 479, 480, 279, 280, 281, 81, 82, 282, 283, 285, 481, 917, 918, 919, 920, 921, 922, 923, 924, 925, 926, 927, 928, 929, 930, 931, 987, 988, 989, 990, 991, 992, 982, 983, 984, 985, 986, 974, 975, 976, 977, 978, 979, 980, 981] (by decide +kernel) (by decide +kernel)
set_option maxRecDepth 20000 in
theorem gL_law_X10_bound : GoodIn wsL_law (wsV RL 70 RX10 yX10_bound wsX10_bound) := goodIn_app (goodIn_of _ (by decide +kernel)) ggL_law_X10_bound
set_option maxRecDepth 20000 in
theorem ggL_law_X11_bound : GoodIn wsL_law wsX11_bound := goodIn_r _ [485, 198, 147, 144, 199, 143, 351, 352, 353, 5, 354, 350, 355, 356, 357, 358, 210, 138, 200, 139, 359, 360, 361, 362, 148, 140, 363, 331, 284, 332, 468, 469, 470, 471, 416, 417, 418, 419, 298, 299, 300, 301, 141, 142, 302, 283, 285, 932, 933, 934, 935, 936, 937, 938, 939, 940, 941, 942, 943, 944, 945, 946, 947, 948, 949, 950, 951, 952, 953, 954, 955, 956, 957, 958, 959, 960, 961, 962, 963, 964, 965, 966, 967, 968, 969, 970, 971, 972, 973] (by decide +kernel) (by decide +kernel)
set_option maxRecDepth 20000 in
theorem gL_law_X11_bound : GoodIn wsL_law (wsV RL 73 RX11 yX11_bound wsX11_bound) := goodIn_app (goodIn_of _ (by decide +kernel)) ggL_law_X11_bound
set_option maxRecDepth 20000 in
theorem ggL_law_X10_greedy : GoodIn wsL_law wsX10_greedy := goodIn_r _ [489, 30, 24, 28, 490, 491, 492, 2, 493, 16, 228, 275, 278, 279, 280, 23, 281, 81, 82, 282, 283, 284, 285, 494, 321, 322, 15, 323, 58, 59, 190, 191, 192, 27, 193, 89, 495, 496, 497, 498, 85, 266, 80, 480, 499, 500, 501, 502, 503, 504, 505, 506, 507, 508, 509, 510, 331, 332, 511, 337, 338, 512, 340, 292, 341, 513, 514, 515, 516, 90, 91, 517, 518, 519, 520, 521, 522, 523, 524, 525, 526, 527, 528, 917, 918, 919, 920, 921, 922, 923, 924, 925, 926, 927, 928, 929, 930, 931, 974, 975, 976, 977, 978, 979, 980, 981, 987, 988, 989, 990, 991, 992, 993, 994, 995] (by decide +kernel) (by decide +kernel)
set_option maxRecDepth 20000 in
theorem gL_law_X10_greedy : GoodIn wsL_law (wsV RL 74 RX10 yX10_greedy wsX10_greedy) := goodIn_app (goodIn_of _ (by decide +kernel)) ggL_law_X10_greedy
set_option maxRecDepth 20000 in
theorem ggL_law_X11_greedy : GoodIn wsL_law wsX11_greedy := goodIn_r _ [532, 198, 533, 155, 199, 156, 138, 200, 139, 140, 363, 331, 284, 332, 534, 535, 536, 5, 537, 298, 299, 300, 301, 141, 142, 302, 283, 285, 538, 539, 540, 541, 542, 543, 544, 545, 151, 152, 546, 547, 548, 549, 149, 150, 211, 550, 551, 552, 932, 933, 934, 935, 936, 937, 938, 939, 940, 941, 942, 943, 944, 945, 946, 947, 948, 949, 950, 951, 952, 953, 954, 955, 956, 957, 958, 959, 960, 961, 962, 963, 964, 965, 966, 967, 968, 969, 970, 971, 972, 973] (by decide +kernel) (by decide +kernel)
set_option maxRecDepth 20000 in
theorem gL_law_X11_greedy : GoodIn wsL_law (wsV RL 77 RX11 yX11_greedy wsX11_greedy) := goodIn_app (goodIn_of _ (by decide +kernel)) ggL_law_X11_greedy
