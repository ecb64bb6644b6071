theorem dX10_init_0 : decode cX10_init 0 = .ok (.aload_n 0, 1) := by decide +kernel
theorem dX10_init_1 : decode cX10_init 1 = .ok (.invokespecial 1, 3) := by decide +kernel
theorem dX10_init_4 : decode cX10_init 4 = .ok (.aload_n 0, 1) := by decide +kernel
theorem dX10_init_5 : decode cX10_init 5 = .ok (.new 7, 3) := by decide +kernel
theorem dX10_init_8 : decode cX10_init 8 = .ok (.dup, 1) := by decide +kernel
theorem dX10_init_9 : decode cX10_init 9 = .ok (.invokespecial 9, 3) := by decide +kernel
theorem dX10_init_12 : decode cX10_init 12 = .ok (.putfield 10, 3) := by decide +kernel
theorem dX10_init_15 : decode cX10_init 15 = .ok (.aload_n 0, 1) := by decide +kernel
theorem dX10_init_16 : decode cX10_init 16 = .ok (.new 16, 3) := by decide +kernel
theorem dX10_init_19 : decode cX10_init 19 = .ok (.dup, 1) := by decide +kernel
theorem dX10_init_20 : decode cX10_init 20 = .ok (.aload_n 0, 1) := by decide +kernel
theorem dX10_init_21 : decode cX10_init 21 = .ok (.getfield 10, 3) := by decide +kernel
theorem dX10_init_24 : decode cX10_init 24 = .ok (.invokespecial 18, 3) := by decide +kernel
theorem dX10_init_27 : decode cX10_init 27 = .ok (.putfield 21, 3) := by decide +kernel
theorem dX10_init_30 : decode cX10_init 30 = .ok (.aload_n 0, 1) := by decide +kernel
theorem dX10_init_31 : decode cX10_init 31 = .ok (.new 25, 3) := by decide +kernel
theorem dX10_init_34 : decode cX10_init 34 = .ok (.dup, 1) := by decide +kernel
theorem dX10_init_35 : decode cX10_init 35 = .ok (.aload_n 0, 1) := by decide +kernel
theorem dX10_init_36 : decode cX10_init 36 = .ok (.getfield 10, 3) := by decide +kernel
theorem dX10_init_39 : decode cX10_init 39 = .ok (.invokespecial 27, 3) := by decide +kernel
theorem dX10_init_42 : decode cX10_init 42 = .ok (.putfield 28, 3) := by decide +kernel
theorem dX10_init_45 : decode cX10_init 45 = .ok (.aload_n 0, 1) := by decide +kernel
theorem dX10_init_46 : decode cX10_init 46 = .ok (.new 32, 3) := by decide +kernel
theorem dX10_init_49 : decode cX10_init 49 = .ok (.dup, 1) := by decide +kernel
theorem dX10_init_50 : decode cX10_init 50 = .ok (.invokespecial 34, 3) := by decide +kernel
theorem dX10_init_53 : decode cX10_init 53 = .ok (.putfield 35, 3) := by decide +kernel
theorem dX10_init_56 : decode cX10_init 56 = .ok (.aload_n 0, 1) := by decide +kernel
theorem dX10_init_57 : decode cX10_init 57 = .ok (.new 32, 3) := by decide +kernel
theorem dX10_init_60 : decode cX10_init 60 = .ok (.dup, 1) := by decide +kernel
theorem dX10_init_61 : decode cX10_init 61 = .ok (.invokespecial 34, 3) := by decide +kernel
theorem dX10_init_64 : decode cX10_init 64 = .ok (.putfield 39, 3) := by decide +kernel
theorem dX10_init_67 : decode cX10_init 67 = .ok (.aload_n 0, 1) := by decide +kernel
theorem dX10_init_68 : decode cX10_init 68 = .ok (.new 32, 3) := by decide +kernel
theorem dX10_init_71 : decode cX10_init 71 = .ok (.dup, 1) := by decide +kernel
theorem dX10_init_72 : decode cX10_init 72 = .ok (.invokespecial 34, 3) := by decide +kernel
theorem dX10_init_75 : decode cX10_init 75 = .ok (.putfield 42, 3) := by decide +kernel
theorem dX10_init_78 : decode cX10_init 78 = .ok (.aload_n 0, 1) := by decide +kernel
theorem dX10_init_79 : decode cX10_init 79 = .ok (.new 45, 3) := by decide +kernel
theorem dX10_init_82 : decode cX10_init 82 = .ok (.dup, 1) := by decide +kernel
theorem dX10_init_83 : decode cX10_init 83 = .ok (.invokespecial 47, 3) := by decide +kernel
theorem dX10_init_86 : decode cX10_init 86 = .ok (.putfield 48, 3) := by decide +kernel
theorem dX10_init_89 : decode cX10_init 89 = .ok (.aload_n 0, 1) := by decide +kernel
theorem dX10_init_90 : decode cX10_init 90 = .ok (.new 45, 3) := by decide +kernel
theorem dX10_init_93 : decode cX10_init 93 = .ok (.dup, 1) := by decide +kernel
theorem dX10_init_94 : decode cX10_init 94 = .ok (.invokespecial 47, 3) := by decide +kernel
theorem dX10_init_97 : decode cX10_init 97 = .ok (.putfield 52, 3) := by decide +kernel
theorem dX10_init_100 : decode cX10_init 100 = .ok (.aload_n 0, 1) := by decide +kernel
theorem dX10_init_101 : decode cX10_init 101 = .ok (.new 45, 3) := by decide +kernel
theorem dX10_init_104 : decode cX10_init 104 = .ok (.dup, 1) := by decide +kernel
theorem dX10_init_105 : decode cX10_init 105 = .ok (.invokespecial 47, 3) := by decide +kernel
theorem dX10_init_108 : decode cX10_init 108 = .ok (.putfield 55, 3) := by decide +kernel
theorem dX10_init_111 : decode cX10_init 111 = .ok (.aload_n 0, 1) := by decide +kernel
theorem dX10_init_112 : decode cX10_init 112 = .ok (.new 58, 3) := by decide +kernel
theorem dX10_init_115 : decode cX10_init 115 = .ok (.dup, 1) := by decide +kernel
theorem dX10_init_116 : decode cX10_init 116 = .ok (.invokespecial 60, 3) := by decide +kernel
theorem dX10_init_119 : decode cX10_init 119 = .ok (.putfield 61, 3) := by decide +kernel
theorem dX10_init_122 : decode cX10_init 122 = .ok (.aload_n 0, 1) := by decide +kernel
theorem dX10_init_123 : decode cX10_init 123 = .ok (.new 65, 3) := by decide +kernel
theorem dX10_init_126 : decode cX10_init 126 = .ok (.dup, 1) := by decide +kernel
theorem dX10_init_127 : decode cX10_init 127 = .ok (.aload_n 0, 1) := by decide +kernel
theorem dX10_init_128 : decode cX10_init 128 = .ok (.getfield 10, 3) := by decide +kernel
theorem dX10_init_131 : decode cX10_init 131 = .ok (.invokespecial 67, 3) := by decide +kernel
theorem dX10_init_134 : decode cX10_init 134 = .ok (.putfield 68, 3) := by decide +kernel
theorem dX10_init_137 : decode cX10_init 137 = .ok (.aload_n 0, 1) := by decide +kernel
theorem dX10_init_138 : decode cX10_init 138 = .ok (.new 72, 3) := by decide +kernel
theorem dX10_init_141 : decode cX10_init 141 = .ok (.dup, 1) := by decide +kernel
theorem dX10_init_142 : decode cX10_init 142 = .ok (.invokespecial 74, 3) := by decide +kernel
theorem dX10_init_145 : decode cX10_init 145 = .ok (.putfield 75, 3) := by decide +kernel
theorem dX10_init_148 : decode cX10_init 148 = .ok (.aload_n 0, 1) := by decide +kernel
theorem dX10_init_149 : decode cX10_init 149 = .ok (.new 79, 3) := by decide +kernel
theorem dX10_init_152 : decode cX10_init 152 = .ok (.dup, 1) := by decide +kernel
theorem dX10_init_153 : decode cX10_init 153 = .ok (.invokespecial 81, 3) := by decide +kernel
theorem dX10_init_156 : decode cX10_init 156 = .ok (.putfield 82, 3) := by decide +kernel
theorem dX10_init_159 : decode cX10_init 159 = .ok (.aload_n 0, 1) := by decide +kernel
theorem dX10_init_160 : decode cX10_init 160 = .ok (.iconst 0, 1) := by decide +kernel
theorem dX10_init_161 : decode cX10_init 161 = .ok (.putfield 86, 3) := by decide +kernel
theorem dX10_init_164 : decode cX10_init 164 = .ok (.aload_n 0, 1) := by decide +kernel
theorem dX10_init_165 : decode cX10_init 165 = .ok (.bipush 100, 2) := by decide +kernel
theorem dX10_init_167 : decode cX10_init 167 = .ok (.putfield 90, 3) := by decide +kernel
theorem dX10_init_170 : decode cX10_init 170 = .ok (.return_, 1) := by decide +kernel
set_option maxRecDepth 20000 in
theorem ggX10_mill_X10_within : GoodIn wsX10_mill wsX10_within := goodIn_r _ [5] (by decide +kernel) (by decide +kernel)
set_option maxRecDepth 20000 in
theorem gX10_mill_X10_within : GoodIn wsX10_mill (va_wsS RX10 94 yX10_within wsX10_within) := goodIn_app (goodIn_of _ (by decide +kernel)) ggX10_mill_X10_within
set_option maxRecDepth 20000 in
theorem ggX10_mill_X4_widest : GoodIn wsX10_mill wsX4_widest := goodIn_r _ [10, 11, 12, 13, 57, 58, 59, 60, 61, 62, 63, 64] (by decide +kernel) (by decide +kernel)
set_option maxRecDepth 20000 in
theorem gX10_mill_X4_widest : GoodIn wsX10_mill (wsV RX10 98 RX4 yX4_widest wsX4_widest) := goodIn_app (goodIn_of _ (by decide +kernel)) ggX10_mill_X4_widest
set_option maxRecDepth 20000 in
theorem ggX10_mill_X4_become : GoodIn wsX10_mill wsX4_become := goodIn_r _ [17, 18, 19, 20, 21, 22, 57, 58, 59, 60, 61, 62, 63, 64] (by decide +kernel) (by decide +kernel)
set_option maxRecDepth 20000 in
theorem gX10_mill_X4_become : GoodIn wsX10_mill (wsV RX10 102 RX4 yX4_become wsX4_become) := goodIn_app (goodIn_of _ (by decide +kernel)) ggX10_mill_X4_become
set_option maxRecDepth 20000 in
theorem ggX10_mill_X10_forgetPatterns : GoodIn wsX10_mill wsX10_forgetPatterns := goodIn_r _ [26, 27, 28, 29, 30, 31, 32, 33, 34, 35, 36, 37, 38, 39, 40, 41, 42, 43, 44, 45, 46, 47, 48, 49, 50, 51, 52, 53, 54, 55, 56, 65, 66, 67, 68, 69, 70, 71, 72] (by decide +kernel) (by decide +kernel)
set_option maxRecDepth 20000 in
theorem gX10_mill_X10_forgetPatterns : GoodIn wsX10_mill (wsV RX10 106 RX10 yX10_forgetPatterns wsX10_forgetPatterns) := goodIn_app (goodIn_of _ (by decide +kernel)) ggX10_mill_X10_forgetPatterns
theorem dX10_mill_0 : decode cX10_mill 0 = .ok (.iload_n 1, 1) := by decide +kernel
theorem dX10_mill_1 : decode cX10_mill 1 = .ok (.bipush 10, 2) := by decide +kernel
theorem dX10_mill_3 : decode cX10_mill 3 = .ok (.sipush 10000, 3) := by decide +kernel
theorem dX10_mill_6 : decode cX10_mill 6 = .ok (.invokestatic 94, 3) := by decide +kernel
theorem dX10_mill_9 : decode cX10_mill 9 = .ok (.ifCond .eq 24, 3) := by decide +kernel
theorem dX10_mill_12 : decode cX10_mill 12 = .ok (.iload_n 2, 1) := by decide +kernel
theorem dX10_mill_13 : decode cX10_mill 13 = .ok (.iconst 0, 1) := by decide +kernel
theorem dX10_mill_14 : decode cX10_mill 14 = .ok (.iload_n 1, 1) := by decide +kernel
theorem dX10_mill_15 : decode cX10_mill 15 = .ok (.iconst 4, 1) := by decide +kernel
theorem dX10_mill_16 : decode cX10_mill 16 = .ok (.idiv, 1) := by decide +kernel
theorem dX10_mill_17 : decode cX10_mill 17 = .ok (.invokestatic 94, 3) := by decide +kernel
theorem dX10_mill_20 : decode cX10_mill 20 = .ok (.ifCond .eq 13, 3) := by decide +kernel
theorem dX10_mill_23 : decode cX10_mill 23 = .ok (.iload_n 3, 1) := by decide +kernel
theorem dX10_mill_24 : decode cX10_mill 24 = .ok (.iconst 1, 1) := by decide +kernel
theorem dX10_mill_25 : decode cX10_mill 25 = .ok (.bipush 20, 2) := by decide +kernel
theorem dX10_mill_27 : decode cX10_mill 27 = .ok (.invokestatic 94, 3) := by decide +kernel
theorem dX10_mill_30 : decode cX10_mill 30 = .ok (.ifCond .ne 5, 3) := by decide +kernel
theorem dX10_mill_33 : decode cX10_mill 33 = .ok (.iconst 0, 1) := by decide +kernel
theorem dX10_mill_34 : decode cX10_mill 34 = .ok (.ireturn, 1) := by decide +kernel
theorem dX10_mill_35 : decode cX10_mill 35 = .ok (.aload_n 0, 1) := by decide +kernel
theorem dX10_mill_36 : decode cX10_mill 36 = .ok (.getfield 10, 3) := by decide +kernel
theorem dX10_mill_39 : decode cX10_mill 39 = .ok (.invokevirtual 98, 3) := by decide +kernel
theorem dX10_mill_42 : decode cX10_mill 42 = .ok (.iload_n 1, 1) := by decide +kernel
theorem dX10_mill_43 : decode cX10_mill 43 = .ok (.if_icmp .le 5, 3) := by decide +kernel
theorem dX10_mill_46 : decode cX10_mill 46 = .ok (.iconst 0, 1) := by decide +kernel
theorem dX10_mill_47 : decode cX10_mill 47 = .ok (.ireturn, 1) := by decide +kernel
theorem dX10_mill_48 : decode cX10_mill 48 = .ok (.aload_n 0, 1) := by decide +kernel
theorem dX10_mill_49 : decode cX10_mill 49 = .ok (.getfield 10, 3) := by decide +kernel
theorem dX10_mill_52 : decode cX10_mill 52 = .ok (.iload_n 1, 1) := by decide +kernel
theorem dX10_mill_53 : decode cX10_mill 53 = .ok (.iload_n 2, 1) := by decide +kernel
theorem dX10_mill_54 : decode cX10_mill 54 = .ok (.iload_n 3, 1) := by decide +kernel
theorem dX10_mill_55 : decode cX10_mill 55 = .ok (.invokevirtual 102, 3) := by decide +kernel
theorem dX10_mill_58 : decode cX10_mill 58 = .ok (.aload_n 0, 1) := by decide +kernel
theorem dX10_mill_59 : decode cX10_mill 59 = .ok (.invokevirtual 106, 3) := by decide +kernel
theorem dX10_mill_62 : decode cX10_mill 62 = .ok (.iconst 1, 1) := by decide +kernel
theorem dX10_mill_63 : decode cX10_mill 63 = .ok (.ireturn, 1) := by decide +kernel
theorem dX10_strip_0 : decode cX10_strip 0 = .ok (.iload_n 1, 1) := by decide +kernel
theorem dX10_strip_1 : decode cX10_strip 1 = .ok (.ifCond .lt 19, 3) := by decide +kernel
theorem dX10_strip_4 : decode cX10_strip 4 = .ok (.iload_n 2, 1) := by decide +kernel
theorem dX10_strip_5 : decode cX10_strip 5 = .ok (.iload_n 1, 1) := by decide +kernel
theorem dX10_strip_6 : decode cX10_strip 6 = .ok (.if_icmp .lt 14, 3) := by decide +kernel
theorem dX10_strip_9 : decode cX10_strip 9 = .ok (.iload_n 2, 1) := by decide +kernel
theorem dX10_strip_10 : decode cX10_strip 10 = .ok (.aload_n 0, 1) := by decide +kernel
theorem dX10_strip_11 : decode cX10_strip 11 = .ok (.getfield 10, 3) := by decide +kernel
theorem dX10_strip_14 : decode cX10_strip 14 = .ok (.getfield 109, 3) := by decide +kernel
theorem dX10_strip_17 : decode cX10_strip 17 = .ok (.if_icmp .le 5, 3) := by decide +kernel
theorem dX10_strip_20 : decode cX10_strip 20 = .ok (.iconst 0, 1) := by decide +kernel
theorem dX10_strip_21 : decode cX10_strip 21 = .ok (.ireturn, 1) := by decide +kernel
theorem dX10_strip_22 : decode cX10_strip 22 = .ok (.aload_n 0, 1) := by decide +kernel
theorem dX10_strip_23 : decode cX10_strip 23 = .ok (.getfield 10, 3) := by decide +kernel
theorem dX10_strip_26 : decode cX10_strip 26 = .ok (.iload_n 1, 1) := by decide +kernel
theorem dX10_strip_27 : decode cX10_strip 27 = .ok (.putfield 112, 3) := by decide +kernel
theorem dX10_strip_30 : decode cX10_strip 30 = .ok (.aload_n 0, 1) := by decide +kernel
theorem dX10_strip_31 : decode cX10_strip 31 = .ok (.getfield 10, 3) := by decide +kernel
theorem dX10_strip_34 : decode cX10_strip 34 = .ok (.iload_n 2, 1) := by decide +kernel
theorem dX10_strip_35 : decode cX10_strip 35 = .ok (.putfield 115, 3) := by decide +kernel
theorem dX10_strip_38 : decode cX10_strip 38 = .ok (.iconst 1, 1) := by decide +kernel
theorem dX10_strip_39 : decode cX10_strip 39 = .ok (.ireturn, 1) := by decide +kernel
set_option maxRecDepth 20000 in
theorem ggX10_width_X10_within : GoodIn wsX10_width wsX10_within := goodIn_r _ [9] (by decide +kernel) (by decide +kernel)
set_option maxRecDepth 20000 in
theorem gX10_width_X10_within : GoodIn wsX10_width (va_wsS RX10 94 yX10_within wsX10_within) := goodIn_app (goodIn_of _ (by decide +kernel)) ggX10_width_X10_within
set_option maxRecDepth 20000 in
theorem ggX10_width_X4_hasWidthOf : GoodIn wsX10_width wsX4_hasWidthOf := goodIn_r _ [14, 15, 16, 56, 57, 58, 59, 60, 61, 62, 63] (by decide +kernel) (by decide +kernel)
set_option maxRecDepth 20000 in
theorem gX10_width_X4_hasWidthOf : GoodIn wsX10_width (wsV RX10 121 RX4 yX4_hasWidthOf wsX4_hasWidthOf) := goodIn_app (goodIn_of _ (by decide +kernel)) ggX10_width_X4_hasWidthOf
set_option maxRecDepth 20000 in
theorem ggX10_width_X4_addWidth : GoodIn wsX10_width wsX4_addWidth := goodIn_r _ [20, 15, 16, 21, 56, 57, 58, 59, 60, 61, 62, 63] (by decide +kernel) (by decide +kernel)
set_option maxRecDepth 20000 in
theorem gX10_width_X4_addWidth : GoodIn wsX10_width (wsV RX10 125 RX4 yX4_addWidth wsX4_addWidth) := goodIn_app (goodIn_of _ (by decide +kernel)) ggX10_width_X4_addWidth
set_option maxRecDepth 20000 in
theorem ggX10_width_X10_forgetPatterns : GoodIn wsX10_width wsX10_forgetPatterns := goodIn_r _ [25, 26, 27, 28, 29, 30, 31, 32, 33, 34, 35, 36, 37, 38, 39, 40, 41, 42, 43, 44, 45, 46, 47, 48, 49, 50, 51, 52, 53, 54, 55, 70, 71, 72, 73, 74, 75, 76, 77] (by decide +kernel) (by decide +kernel)
set_option maxRecDepth 20000 in
theorem gX10_width_X10_forgetPatterns : GoodIn wsX10_width (wsV RX10 106 RX10 yX10_forgetPatterns wsX10_forgetPatterns) := goodIn_app (goodIn_of _ (by decide +kernel)) ggX10_width_X10_forgetPatterns
theorem dX10_width_0 : decode cX10_width 0 = .ok (.iload_n 1, 1) := by decide +kernel
theorem dX10_width_1 : decode cX10_width 1 = .ok (.iconst 1, 1) := by decide +kernel
theorem dX10_width_2 : decode cX10_width 2 = .ok (.aload_n 0, 1) := by decide +kernel
theorem dX10_width_3 : decode cX10_width 3 = .ok (.getfield 10, 3) := by decide +kernel
theorem dX10_width_6 : decode cX10_width 6 = .ok (.getfield 109, 3) := by decide +kernel
theorem dX10_width_9 : decode cX10_width 9 = .ok (.invokestatic 94, 3) := by decide +kernel
theorem dX10_width_12 : decode cX10_width 12 = .ok (.ifCond .eq 13, 3) := by decide +kernel
theorem dX10_width_15 : decode cX10_width 15 = .ok (.iload_n 2, 1) := by decide +kernel
theorem dX10_width_16 : decode cX10_width 16 = .ok (.iconst 0, 1) := by decide +kernel
theorem dX10_width_17 : decode cX10_width 17 = .ok (.bipush 40, 2) := by decide +kernel
theorem dX10_width_19 : decode cX10_width 19 = .ok (.invokestatic 94, 3) := by decide +kernel
theorem dX10_width_22 : decode cX10_width 22 = .ok (.ifCond .ne 5, 3) := by decide +kernel
theorem dX10_width_25 : decode cX10_width 25 = .ok (.iconst (-1), 1) := by decide +kernel
theorem dX10_width_26 : decode cX10_width 26 = .ok (.ireturn, 1) := by decide +kernel
theorem dX10_width_27 : decode cX10_width 27 = .ok (.aload_n 0, 1) := by decide +kernel
theorem dX10_width_28 : decode cX10_width 28 = .ok (.getfield 10, 3) := by decide +kernel
theorem dX10_width_31 : decode cX10_width 31 = .ok (.getfield 118, 3) := by decide +kernel
theorem dX10_width_34 : decode cX10_width 34 = .ok (.bipush 6, 2) := by decide +kernel
theorem dX10_width_36 : decode cX10_width 36 = .ok (.if_icmp .ge 14, 3) := by decide +kernel
theorem dX10_width_39 : decode cX10_width 39 = .ok (.aload_n 0, 1) := by decide +kernel
theorem dX10_width_40 : decode cX10_width 40 = .ok (.getfield 10, 3) := by decide +kernel
theorem dX10_width_43 : decode cX10_width 43 = .ok (.iload_n 1, 1) := by decide +kernel
theorem dX10_width_44 : decode cX10_width 44 = .ok (.invokevirtual 121, 3) := by decide +kernel
theorem dX10_width_47 : decode cX10_width 47 = .ok (.ifCond .eq 5, 3) := by decide +kernel
theorem dX10_width_50 : decode cX10_width 50 = .ok (.iconst (-1), 1) := by decide +kernel
theorem dX10_width_51 : decode cX10_width 51 = .ok (.ireturn, 1) := by decide +kernel
theorem dX10_width_52 : decode cX10_width 52 = .ok (.aload_n 0, 1) := by decide +kernel
theorem dX10_width_53 : decode cX10_width 53 = .ok (.getfield 10, 3) := by decide +kernel
theorem dX10_width_56 : decode cX10_width 56 = .ok (.iload_n 1, 1) := by decide +kernel
theorem dX10_width_57 : decode cX10_width 57 = .ok (.invokevirtual 125, 3) := by decide +kernel
theorem dX10_width_60 : decode cX10_width 60 = .ok (.istore_n 3, 1) := by decide +kernel
theorem dX10_width_61 : decode cX10_width 61 = .ok (.aload_n 0, 1) := by decide +kernel
theorem dX10_width_62 : decode cX10_width 62 = .ok (.getfield 28, 3) := by decide +kernel
theorem dX10_width_65 : decode cX10_width 65 = .ok (.getfield 129, 3) := by decide +kernel
theorem dX10_width_68 : decode cX10_width 68 = .ok (.iload_n 3, 1) := by decide +kernel
theorem dX10_width_69 : decode cX10_width 69 = .ok (.iload_n 2, 1) := by decide +kernel
theorem dX10_width_70 : decode cX10_width 70 = .ok (.iastore, 1) := by decide +kernel
theorem dX10_width_71 : decode cX10_width 71 = .ok (.aload_n 0, 1) := by decide +kernel
theorem dX10_width_72 : decode cX10_width 72 = .ok (.invokevirtual 106, 3) := by decide +kernel
theorem dX10_width_75 : decode cX10_width 75 = .ok (.iload_n 3, 1) := by decide +kernel
theorem dX10_width_76 : decode cX10_width 76 = .ok (.ireturn, 1) := by decide +kernel
set_option maxRecDepth 20000 in
theorem ggX10_order_X4_isWidth : GoodIn wsX10_order wsX4_isWidth := goodIn_r _ [8, 9, 35, 36, 37, 38, 39, 40, 41, 42] (by decide +kernel) (by decide +kernel)
set_option maxRecDepth 20000 in
theorem gX10_order_X4_isWidth : GoodIn wsX10_order (wsV RX10 133 RX4 yX4_isWidth wsX4_isWidth) := goodIn_app (goodIn_of _ (by decide +kernel)) ggX10_order_X4_isWidth
set_option maxRecDepth 20000 in
theorem ggX10_order_X10_within : GoodIn wsX10_order wsX10_within := goodIn_r _ [13] (by decide +kernel) (by decide +kernel)
set_option maxRecDepth 20000 in
theorem gX10_order_X10_within : GoodIn wsX10_order (va_wsS RX10 94 yX10_within wsX10_within) := goodIn_app (goodIn_of _ (by decide +kernel)) ggX10_order_X10_within
theorem dX10_order_0 : decode cX10_order 0 = .ok (.aload_n 0, 1) := by decide +kernel
theorem dX10_order_1 : decode cX10_order 1 = .ok (.getfield 10, 3) := by decide +kernel
theorem dX10_order_4 : decode cX10_order 4 = .ok (.iload_n 1, 1) := by decide +kernel
theorem dX10_order_5 : decode cX10_order 5 = .ok (.invokevirtual 133, 3) := by decide +kernel
theorem dX10_order_8 : decode cX10_order 8 = .ok (.ifCond .eq 13, 3) := by decide +kernel
theorem dX10_order_11 : decode cX10_order 11 = .ok (.iload_n 2, 1) := by decide +kernel
theorem dX10_order_12 : decode cX10_order 12 = .ok (.iconst 0, 1) := by decide +kernel
theorem dX10_order_13 : decode cX10_order 13 = .ok (.bipush 40, 2) := by decide +kernel
theorem dX10_order_15 : decode cX10_order 15 = .ok (.invokestatic 94, 3) := by decide +kernel
theorem dX10_order_18 : decode cX10_order 18 = .ok (.ifCond .ne 5, 3) := by decide +kernel
theorem dX10_order_21 : decode cX10_order 21 = .ok (.iconst 0, 1) := by decide +kernel
theorem dX10_order_22 : decode cX10_order 22 = .ok (.ireturn, 1) := by decide +kernel
theorem dX10_order_23 : decode cX10_order 23 = .ok (.aload_n 0, 1) := by decide +kernel
theorem dX10_order_24 : decode cX10_order 24 = .ok (.getfield 28, 3) := by decide +kernel
theorem dX10_order_27 : decode cX10_order 27 = .ok (.getfield 129, 3) := by decide +kernel
theorem dX10_order_30 : decode cX10_order 30 = .ok (.iload_n 1, 1) := by decide +kernel
theorem dX10_order_31 : decode cX10_order 31 = .ok (.iload_n 2, 1) := by decide +kernel
theorem dX10_order_32 : decode cX10_order 32 = .ok (.iastore, 1) := by decide +kernel
theorem dX10_order_33 : decode cX10_order 33 = .ok (.iconst 1, 1) := by decide +kernel
theorem dX10_order_34 : decode cX10_order 34 = .ok (.ireturn, 1) := by decide +kernel
set_option maxRecDepth 20000 in
theorem ggX10_length_X10_within : GoodIn wsX10_length wsX10_within := goodIn_r _ [6] (by decide +kernel) (by decide +kernel)
set_option maxRecDepth 20000 in
theorem gX10_length_X10_within : GoodIn wsX10_length (va_wsS RX10 94 yX10_within wsX10_within) := goodIn_app (goodIn_of _ (by decide +kernel)) ggX10_length_X10_within
set_option maxRecDepth 20000 in
theorem ggX10_length_X6_isAnyDone : GoodIn wsX10_length wsX6_isAnyDone := goodIn_r _ [11, 12, 13, 14, 30, 31, 32, 33, 34, 35, 36, 37, 38, 39, 40, 41, 42, 43] (by decide +kernel) (by decide +kernel)
set_option maxRecDepth 20000 in
theorem gX10_length_X6_isAnyDone : GoodIn wsX10_length (wsV RX10 136 RX6 yX6_isAnyDone wsX6_isAnyDone) := goodIn_app (goodIn_of _ (by decide +kernel)) ggX10_length_X6_isAnyDone
theorem dX10_length_0 : decode cX10_length 0 = .ok (.iload_n 1, 1) := by decide +kernel
theorem dX10_length_1 : decode cX10_length 1 = .ok (.iconst 1, 1) := by decide +kernel
theorem dX10_length_2 : decode cX10_length 2 = .ok (.sipush 10000, 3) := by decide +kernel
theorem dX10_length_5 : decode cX10_length 5 = .ok (.invokestatic 94, 3) := by decide +kernel
theorem dX10_length_8 : decode cX10_length 8 = .ok (.ifCond .eq 13, 3) := by decide +kernel
theorem dX10_length_11 : decode cX10_length 11 = .ok (.aload_n 0, 1) := by decide +kernel
theorem dX10_length_12 : decode cX10_length 12 = .ok (.getfield 28, 3) := by decide +kernel
theorem dX10_length_15 : decode cX10_length 15 = .ok (.invokevirtual 136, 3) := by decide +kernel
theorem dX10_length_18 : decode cX10_length 18 = .ok (.ifCond .eq 5, 3) := by decide +kernel
theorem dX10_length_21 : decode cX10_length 21 = .ok (.iconst 0, 1) := by decide +kernel
theorem dX10_length_22 : decode cX10_length 22 = .ok (.ireturn, 1) := by decide +kernel
theorem dX10_length_23 : decode cX10_length 23 = .ok (.aload_n 0, 1) := by decide +kernel
theorem dX10_length_24 : decode cX10_length 24 = .ok (.iload_n 1, 1) := by decide +kernel
theorem dX10_length_25 : decode cX10_length 25 = .ok (.putfield 90, 3) := by decide +kernel
theorem dX10_length_28 : decode cX10_length 28 = .ok (.iconst 1, 1) := by decide +kernel
theorem dX10_length_29 : decode cX10_length 29 = .ok (.ireturn, 1) := by decide +kernel
set_option maxRecDepth 20000 in
theorem ggX10_about_X4_isWidth : GoodIn wsX10_about wsX4_isWidth := goodIn_r _ [12, 13, 52, 53, 54, 55, 56, 57, 58, 59] (by decide +kernel) (by decide +kernel)
set_option maxRecDepth 20000 in
theorem gX10_about_X4_isWidth : GoodIn wsX10_about (wsV RX10 133 RX4 yX4_isWidth wsX4_isWidth) := goodIn_app (goodIn_of _ (by decide +kernel)) ggX10_about_X4_isWidth
set_option maxRecDepth 20000 in
theorem ggX10_about_X6_wanted : GoodIn wsX10_about wsX6_wanted := goodIn_r _ [18, 19, 20, 21, 22, 23, 24, 60, 61, 62, 63, 64, 65] (by decide +kernel) (by decide +kernel)
set_option maxRecDepth 20000 in
theorem gX10_about_X6_wanted : GoodIn wsX10_about (wsV RX10 146 RX6 yX6_wanted wsX6_wanted) := goodIn_app (goodIn_of _ (by decide +kernel)) ggX10_about_X6_wanted
set_option maxRecDepth 20000 in
theorem ggX10_about_X8_piecesOf : GoodIn wsX10_about wsX8_piecesOf := goodIn_r _ [29, 30, 31, 32, 33, 34, 35, 36, 66, 67, 68] (by decide +kernel) (by decide +kernel)
set_option maxRecDepth 20000 in
theorem gX10_about_X8_piecesOf : GoodIn wsX10_about (wsV RX10 152 RX8 yX8_piecesOf wsX8_piecesOf) := goodIn_app (goodIn_of _ (by decide +kernel)) ggX10_about_X8_piecesOf
theorem dX10_about_0 : decode cX10_about 0 = .ok (.aload_n 0, 1) := by decide +kernel
theorem dX10_about_1 : decode cX10_about 1 = .ok (.getfield 10, 3) := by decide +kernel
theorem dX10_about_4 : decode cX10_about 4 = .ok (.iload_n 1, 1) := by decide +kernel
theorem dX10_about_5 : decode cX10_about 5 = .ok (.invokevirtual 133, 3) := by decide +kernel
theorem dX10_about_8 : decode cX10_about 8 = .ok (.ifCond .ne 5, 3) := by decide +kernel
theorem dX10_about_11 : decode cX10_about 11 = .ok (.iconst (-1), 1) := by decide +kernel
theorem dX10_about_12 : decode cX10_about 12 = .ok (.ireturn, 1) := by decide +kernel
theorem dX10_about_13 : decode cX10_about 13 = .ok (.iload_n 2, 1) := by decide +kernel
theorem dX10_about_14 : decode cX10_about 14 = .ok (.tableswitch 96 0 5 #[38, 48, 58, 68, 77, 87], 38) := by decide +kernel
theorem dX10_about_52 : decode cX10_about 52 = .ok (.aload_n 0, 1) := by decide +kernel
theorem dX10_about_53 : decode cX10_about 53 = .ok (.getfield 10, 3) := by decide +kernel
theorem dX10_about_56 : decode cX10_about 56 = .ok (.getfield 140, 3) := by decide +kernel
theorem dX10_about_59 : decode cX10_about 59 = .ok (.iload_n 1, 1) := by decide +kernel
theorem dX10_about_60 : decode cX10_about 60 = .ok (.iaload, 1) := by decide +kernel
theorem dX10_about_61 : decode cX10_about 61 = .ok (.ireturn, 1) := by decide +kernel
theorem dX10_about_62 : decode cX10_about 62 = .ok (.aload_n 0, 1) := by decide +kernel
theorem dX10_about_63 : decode cX10_about 63 = .ok (.getfield 28, 3) := by decide +kernel
theorem dX10_about_66 : decode cX10_about 66 = .ok (.getfield 129, 3) := by decide +kernel
theorem dX10_about_69 : decode cX10_about 69 = .ok (.iload_n 1, 1) := by decide +kernel
theorem dX10_about_70 : decode cX10_about 70 = .ok (.iaload, 1) := by decide +kernel
theorem dX10_about_71 : decode cX10_about 71 = .ok (.ireturn, 1) := by decide +kernel
theorem dX10_about_72 : decode cX10_about 72 = .ok (.aload_n 0, 1) := by decide +kernel
theorem dX10_about_73 : decode cX10_about 73 = .ok (.getfield 28, 3) := by decide +kernel
theorem dX10_about_76 : decode cX10_about 76 = .ok (.getfield 143, 3) := by decide +kernel
theorem dX10_about_79 : decode cX10_about 79 = .ok (.iload_n 1, 1) := by decide +kernel
theorem dX10_about_80 : decode cX10_about 80 = .ok (.iaload, 1) := by decide +kernel
theorem dX10_about_81 : decode cX10_about 81 = .ok (.ireturn, 1) := by decide +kernel
theorem dX10_about_82 : decode cX10_about 82 = .ok (.aload_n 0, 1) := by decide +kernel
theorem dX10_about_83 : decode cX10_about 83 = .ok (.getfield 28, 3) := by decide +kernel
theorem dX10_about_86 : decode cX10_about 86 = .ok (.iload_n 1, 1) := by decide +kernel
theorem dX10_about_87 : decode cX10_about 87 = .ok (.invokevirtual 146, 3) := by decide +kernel
theorem dX10_about_90 : decode cX10_about 90 = .ok (.ireturn, 1) := by decide +kernel
theorem dX10_about_91 : decode cX10_about 91 = .ok (.aload_n 0, 1) := by decide +kernel
theorem dX10_about_92 : decode cX10_about 92 = .ok (.getfield 28, 3) := by decide +kernel
theorem dX10_about_95 : decode cX10_about 95 = .ok (.getfield 149, 3) := by decide +kernel
theorem dX10_about_98 : decode cX10_about 98 = .ok (.iload_n 1, 1) := by decide +kernel
theorem dX10_about_99 : decode cX10_about 99 = .ok (.iaload, 1) := by decide +kernel
theorem dX10_about_100 : decode cX10_about 100 = .ok (.ireturn, 1) := by decide +kernel
theorem dX10_about_101 : decode cX10_about 101 = .ok (.aload_n 0, 1) := by decide +kernel
theorem dX10_about_102 : decode cX10_about 102 = .ok (.getfield 35, 3) := by decide +kernel
theorem dX10_about_105 : decode cX10_about 105 = .ok (.iload_n 1, 1) := by decide +kernel
theorem dX10_about_106 : decode cX10_about 106 = .ok (.invokevirtual 152, 3) := by decide +kernel
theorem dX10_about_109 : decode cX10_about 109 = .ok (.ireturn, 1) := by decide +kernel
theorem dX10_about_110 : decode cX10_about 110 = .ok (.iconst (-1), 1) := by decide +kernel
theorem dX10_about_111 : decode cX10_about 111 = .ok (.ireturn, 1) := by decide +kernel
set_option maxRecDepth 20000 in
theorem ggX10_patterns_X5_isOverfull : GoodIn wsX10_patterns wsX5_isOverfull := goodIn_r _ [6, 7, 8, 9, 10, 5, 11, 12, 13, 14, 15, 16, 17, 18, 19, 20, 21, 22, 23, 24, 25, 26, 27, 28, 29, 30, 31, 32, 33, 34, 35, 36, 37, 38, 39, 40, 41, 42, 43, 44, 64, 65, 66, 67, 68, 69, 70, 71, 72, 73, 74, 75, 76] (by decide +kernel) (by decide +kernel)
set_option maxRecDepth 20000 in
theorem gX10_patterns_X5_isOverfull : GoodIn wsX10_patterns (wsV RX10 155 RX5 yX5_isOverfull wsX5_isOverfull) := goodIn_app (goodIn_of _ (by decide +kernel)) ggX10_patterns_X5_isOverfull
set_option maxRecDepth 20000 in
theorem ggX10_patterns_X5_count : GoodIn wsX10_patterns wsX5_count := goodIn_r _ [48, 13, 8, 9, 10, 5, 11, 12, 7, 14, 15, 16, 17, 18, 19, 20, 21, 22, 23, 24, 25, 26, 27, 28, 29, 30, 31, 32, 33, 34, 35, 36, 37, 38, 39, 40, 41, 42, 43, 44, 64, 65, 66, 67, 68, 69, 70, 71, 72, 73, 74, 75, 76] (by decide +kernel) (by decide +kernel)
set_option maxRecDepth 20000 in
theorem gX10_patterns_X5_count : GoodIn wsX10_patterns (wsV RX10 158 RX5 yX5_count wsX5_count) := goodIn_app (goodIn_of _ (by decide +kernel)) ggX10_patterns_X5_count
theorem dX10_patterns_0 : decode cX10_patterns 0 = .ok (.aload_n 0, 1) := by decide +kernel
theorem dX10_patterns_1 : decode cX10_patterns 1 = .ok (.getfield 21, 3) := by decide +kernel
theorem dX10_patterns_4 : decode cX10_patterns 4 = .ok (.invokevirtual 155, 3) := by decide +kernel
theorem dX10_patterns_7 : decode cX10_patterns 7 = .ok (.ifCond .eq 8, 3) := by decide +kernel
theorem dX10_patterns_10 : decode cX10_patterns 10 = .ok (.bipush (-2), 2) := by decide +kernel
theorem dX10_patterns_12 : decode cX10_patterns 12 = .ok (.goto 10, 3) := by decide +kernel
theorem dX10_patterns_15 : decode cX10_patterns 15 = .ok (.aload_n 0, 1) := by decide +kernel
theorem dX10_patterns_16 : decode cX10_patterns 16 = .ok (.getfield 21, 3) := by decide +kernel
theorem dX10_patterns_19 : decode cX10_patterns 19 = .ok (.invokevirtual 158, 3) := by decide +kernel
theorem dX10_patterns_22 : decode cX10_patterns 22 = .ok (.ireturn, 1) := by decide +kernel
set_option maxRecDepth 20000 in
theorem ggX10_pattern_X5_isNumber : GoodIn wsX10_pattern wsX5_isNumber := goodIn_r _ [9, 10, 11, 12, 8, 13, 14, 15, 16, 17, 18, 19, 20, 21, 22, 23, 24, 25, 26, 27, 28, 29, 30, 31, 32, 33, 34, 35, 36, 37, 38, 39, 40, 41, 42, 43, 44, 45, 46, 47, 48, 49, 50, 51, 112, 113, 114, 115, 116, 117, 118, 119, 120, 121, 122, 123, 124] (by decide +kernel) (by decide +kernel)
set_option maxRecDepth 20000 in
theorem gX10_pattern_X5_isNumber : GoodIn wsX10_pattern (wsV RX10 161 RX5 yX5_isNumber wsX5_isNumber) := goodIn_app (goodIn_of _ (by decide +kernel)) ggX10_pattern_X5_isNumber
set_option maxRecDepth 20000 in
theorem ggX10_pattern_X5_codeAt : GoodIn wsX10_pattern wsX5_codeAt := goodIn_r _ [55, 14, 44, 112, 113, 114, 115, 116] (by decide +kernel) (by decide +kernel)
set_option maxRecDepth 20000 in
theorem gX10_pattern_X5_codeAt : GoodIn wsX10_pattern (wsV RX10 166 RX5 yX5_codeAt wsX5_codeAt) := goodIn_app (goodIn_of _ (by decide +kernel)) ggX10_pattern_X5_codeAt
set_option maxRecDepth 20000 in
theorem ggX10_pattern_X4_isWidth : GoodIn wsX10_pattern wsX4_isWidth := goodIn_r _ [59, 60, 117, 118, 119, 120, 121, 122, 123, 124] (by decide +kernel) (by decide +kernel)
set_option maxRecDepth 20000 in
theorem gX10_pattern_X4_isWidth : GoodIn wsX10_pattern (wsV RX10 133 RX4 yX4_isWidth wsX4_isWidth) := goodIn_app (goodIn_of _ (by decide +kernel)) ggX10_pattern_X4_isWidth
set_option maxRecDepth 20000 in
theorem ggX10_pattern_X0_ofWidth : GoodIn wsX10_pattern wsX0_ofWidth := goodIn_r _ [63] (by decide +kernel) (by decide +kernel)
set_option maxRecDepth 20000 in
theorem gX10_pattern_X0_ofWidth : GoodIn wsX10_pattern (va_wsS RX10 169 yX0_ofWidth wsX0_ofWidth) := goodIn_app (goodIn_of _ (by decide +kernel)) ggX10_pattern_X0_ofWidth
set_option maxRecDepth 20000 in
theorem ggX10_pattern_X4_wasteOf : GoodIn wsX10_pattern wsX4_wasteOf := goodIn_r _ [67, 28, 68, 69, 70, 26, 71, 60, 72, 73, 62, 50, 63, 117, 118, 119, 120, 121, 122, 123, 124] (by decide +kernel) (by decide +kernel)
set_option maxRecDepth 20000 in
theorem gX10_pattern_X4_wasteOf : GoodIn wsX10_pattern (wsV RX10 175 RX4 yX4_wasteOf wsX4_wasteOf) := goodIn_app (goodIn_of _ (by decide +kernel)) ggX10_pattern_X4_wasteOf
set_option maxRecDepth 20000 in
theorem ggX10_pattern_X6_worthOf : GoodIn wsX10_pattern wsX6_worthOf := goodIn_r _ [78, 79, 80, 81, 82, 62, 50, 63, 125, 126, 127, 128, 129, 130, 117, 118, 119, 120, 121, 122, 123, 124] (by decide +kernel) (by decide +kernel)
set_option maxRecDepth 20000 in
theorem gX10_pattern_X6_worthOf : GoodIn wsX10_pattern (wsV RX10 178 RX6 yX6_worthOf wsX6_worthOf) := goodIn_app (goodIn_of _ (by decide +kernel)) ggX10_pattern_X6_worthOf
set_option maxRecDepth 20000 in
theorem ggX10_pattern_X4_fitsFlawed : GoodIn wsX10_pattern wsX4_fitsFlawed := goodIn_r _ [86, 87, 88, 28, 29, 89, 37, 38, 39, 90, 91, 92, 93, 94, 95, 26, 96, 60, 72, 73, 62, 50, 63, 117, 118, 119, 120, 121, 122, 123, 124] (by decide +kernel) (by decide +kernel)
set_option maxRecDepth 20000 in
theorem gX10_pattern_X4_fitsFlawed : GoodIn wsX10_pattern (wsV RX10 181 RX4 yX4_fitsFlawed wsX4_fitsFlawed) := goodIn_app (goodIn_of _ (by decide +kernel)) ggX10_pattern_X4_fitsFlawed
theorem dX10_pattern_0 : decode cX10_pattern 0 = .ok (.aload_n 0, 1) := by decide +kernel
theorem dX10_pattern_1 : decode cX10_pattern 1 = .ok (.getfield 21, 3) := by decide +kernel
theorem dX10_pattern_4 : decode cX10_pattern 4 = .ok (.iload_n 1, 1) := by decide +kernel
theorem dX10_pattern_5 : decode cX10_pattern 5 = .ok (.invokevirtual 161, 3) := by decide +kernel
theorem dX10_pattern_8 : decode cX10_pattern 8 = .ok (.ifCond .ne 7, 3) := by decide +kernel
theorem dX10_pattern_11 : decode cX10_pattern 11 = .ok (.ldc2_w 164, 3) := by decide +kernel
theorem dX10_pattern_14 : decode cX10_pattern 14 = .ok (.lreturn, 1) := by decide +kernel
theorem dX10_pattern_15 : decode cX10_pattern 15 = .ok (.aload_n 0, 1) := by decide +kernel
theorem dX10_pattern_16 : decode cX10_pattern 16 = .ok (.getfield 21, 3) := by decide +kernel
theorem dX10_pattern_19 : decode cX10_pattern 19 = .ok (.iload_n 1, 1) := by decide +kernel
theorem dX10_pattern_20 : decode cX10_pattern 20 = .ok (.invokevirtual 166, 3) := by decide +kernel
theorem dX10_pattern_23 : decode cX10_pattern 23 = .ok (.istore_n 3, 1) := by decide +kernel
theorem dX10_pattern_24 : decode cX10_pattern 24 = .ok (.aload_n 0, 1) := by decide +kernel
theorem dX10_pattern_25 : decode cX10_pattern 25 = .ok (.getfield 10, 3) := by decide +kernel
theorem dX10_pattern_28 : decode cX10_pattern 28 = .ok (.iload_n 2, 1) := by decide +kernel
theorem dX10_pattern_29 : decode cX10_pattern 29 = .ok (.invokevirtual 133, 3) := by decide +kernel
theorem dX10_pattern_32 : decode cX10_pattern 32 = .ok (.ifCond .eq 10, 3) := by decide +kernel
theorem dX10_pattern_35 : decode cX10_pattern 35 = .ok (.iload_n 3, 1) := by decide +kernel
theorem dX10_pattern_36 : decode cX10_pattern 36 = .ok (.iload_n 2, 1) := by decide +kernel
theorem dX10_pattern_37 : decode cX10_pattern 37 = .ok (.invokestatic 169, 3) := by decide +kernel
theorem dX10_pattern_40 : decode cX10_pattern 40 = .ok (.i2l, 1) := by decide +kernel
theorem dX10_pattern_41 : decode cX10_pattern 41 = .ok (.lreturn, 1) := by decide +kernel
theorem dX10_pattern_42 : decode cX10_pattern 42 = .ok (.iload_n 2, 1) := by decide +kernel
theorem dX10_pattern_43 : decode cX10_pattern 43 = .ok (.tableswitch 62 (-3) (-1) #[45, 35, 25], 25) := by decide +kernel
theorem dX10_pattern_68 : decode cX10_pattern 68 = .ok (.aload_n 0, 1) := by decide +kernel
theorem dX10_pattern_69 : decode cX10_pattern 69 = .ok (.getfield 10, 3) := by decide +kernel
theorem dX10_pattern_72 : decode cX10_pattern 72 = .ok (.iload_n 3, 1) := by decide +kernel
theorem dX10_pattern_73 : decode cX10_pattern 73 = .ok (.invokevirtual 175, 3) := by decide +kernel
theorem dX10_pattern_76 : decode cX10_pattern 76 = .ok (.i2l, 1) := by decide +kernel
theorem dX10_pattern_77 : decode cX10_pattern 77 = .ok (.lreturn, 1) := by decide +kernel
theorem dX10_pattern_78 : decode cX10_pattern 78 = .ok (.aload_n 0, 1) := by decide +kernel
theorem dX10_pattern_79 : decode cX10_pattern 79 = .ok (.getfield 28, 3) := by decide +kernel
theorem dX10_pattern_82 : decode cX10_pattern 82 = .ok (.iload_n 3, 1) := by decide +kernel
theorem dX10_pattern_83 : decode cX10_pattern 83 = .ok (.invokevirtual 178, 3) := by decide +kernel
theorem dX10_pattern_86 : decode cX10_pattern 86 = .ok (.i2l, 1) := by decide +kernel
theorem dX10_pattern_87 : decode cX10_pattern 87 = .ok (.lreturn, 1) := by decide +kernel
theorem dX10_pattern_88 : decode cX10_pattern 88 = .ok (.aload_n 0, 1) := by decide +kernel
theorem dX10_pattern_89 : decode cX10_pattern 89 = .ok (.getfield 10, 3) := by decide +kernel
theorem dX10_pattern_92 : decode cX10_pattern 92 = .ok (.iload_n 3, 1) := by decide +kernel
theorem dX10_pattern_93 : decode cX10_pattern 93 = .ok (.invokevirtual 181, 3) := by decide +kernel
theorem dX10_pattern_96 : decode cX10_pattern 96 = .ok (.ifCond .eq 7, 3) := by decide +kernel
theorem dX10_pattern_99 : decode cX10_pattern 99 = .ok (.lconst 1, 1) := by decide +kernel
theorem dX10_pattern_100 : decode cX10_pattern 100 = .ok (.goto 4, 3) := by decide +kernel
theorem dX10_pattern_103 : decode cX10_pattern 103 = .ok (.lconst 0, 1) := by decide +kernel
theorem dX10_pattern_104 : decode cX10_pattern 104 = .ok (.lreturn, 1) := by decide +kernel
theorem dX10_pattern_105 : decode cX10_pattern 105 = .ok (.ldc2_w 164, 3) := by decide +kernel
theorem dX10_pattern_108 : decode cX10_pattern 108 = .ok (.lreturn, 1) := by decide +kernel
set_option maxRecDepth 20000 in
theorem ggX10_find_X10_areCounts : GoodIn wsX10_find wsX10_areCounts := goodIn_r _ [5, 6, 7, 4, 8] (by decide +kernel) (by decide +kernel)
set_option maxRecDepth 20000 in
theorem gX10_find_X10_areCounts : GoodIn wsX10_find (va_wsS RX10 184 yX10_areCounts wsX10_areCounts) := goodIn_app (goodIn_of _ (by decide +kernel)) ggX10_find_X10_areCounts
set_option maxRecDepth 20000 in
theorem ggX10_find_X0_packed : GoodIn wsX10_find wsX0_packed := goodIn_r _ [12] (by decide +kernel) (by decide +kernel)
set_option maxRecDepth 20000 in
theorem gX10_find_X0_packed : GoodIn wsX10_find (va_wsS RX10 187 yX0_packed wsX0_packed) := goodIn_app (goodIn_of _ (by decide +kernel)) ggX10_find_X0_packed
set_option maxRecDepth 20000 in
theorem ggX10_find_X5_numberOf : GoodIn wsX10_find wsX5_numberOf := goodIn_r _ [17, 18, 19, 20, 21, 16, 22, 23, 24, 25, 26, 27, 28, 29, 30, 31, 32, 33, 34, 35, 36, 37, 38, 39, 40, 41, 42, 43, 44, 45, 46, 47, 48, 49, 50, 51, 52, 53, 4, 54, 55, 10, 11, 12, 56, 57, 58, 59, 75, 76, 77, 78, 79, 80, 81, 82, 83, 84, 85, 86, 87] (by decide +kernel) (by decide +kernel)
set_option maxRecDepth 20000 in
theorem gX10_find_X5_numberOf : GoodIn wsX10_find (wsV RX10 190 RX5 yX5_numberOf wsX5_numberOf) := goodIn_app (goodIn_of _ (by decide +kernel)) ggX10_find_X5_numberOf
theorem dX10_find_0 : decode cX10_find 0 = .ok (.iload_n 1, 1) := by decide +kernel
theorem dX10_find_1 : decode cX10_find 1 = .ok (.iload_n 2, 1) := by decide +kernel
theorem dX10_find_2 : decode cX10_find 2 = .ok (.iload_n 3, 1) := by decide +kernel
theorem dX10_find_3 : decode cX10_find 3 = .ok (.invokestatic 184, 3) := by decide +kernel
theorem dX10_find_6 : decode cX10_find 6 = .ok (.ifCond .eq 15, 3) := by decide +kernel
theorem dX10_find_9 : decode cX10_find 9 = .ok (.iload 4, 2) := by decide +kernel
theorem dX10_find_11 : decode cX10_find 11 = .ok (.iload 5, 2) := by decide +kernel
theorem dX10_find_13 : decode cX10_find 13 = .ok (.iload 6, 2) := by decide +kernel
theorem dX10_find_15 : decode cX10_find 15 = .ok (.invokestatic 184, 3) := by decide +kernel
theorem dX10_find_18 : decode cX10_find 18 = .ok (.ifCond .ne 5, 3) := by decide +kernel
theorem dX10_find_21 : decode cX10_find 21 = .ok (.iconst (-1), 1) := by decide +kernel
theorem dX10_find_22 : decode cX10_find 22 = .ok (.ireturn, 1) := by decide +kernel
theorem dX10_find_23 : decode cX10_find 23 = .ok (.iconst 0, 1) := by decide +kernel
theorem dX10_find_24 : decode cX10_find 24 = .ok (.iload_n 1, 1) := by decide +kernel
theorem dX10_find_25 : decode cX10_find 25 = .ok (.invokestatic 187, 3) := by decide +kernel
theorem dX10_find_28 : decode cX10_find 28 = .ok (.iconst 1, 1) := by decide +kernel
theorem dX10_find_29 : decode cX10_find 29 = .ok (.iload_n 2, 1) := by decide +kernel
theorem dX10_find_30 : decode cX10_find 30 = .ok (.invokestatic 187, 3) := by decide +kernel
theorem dX10_find_33 : decode cX10_find 33 = .ok (.ior, 1) := by decide +kernel
theorem dX10_find_34 : decode cX10_find 34 = .ok (.iconst 2, 1) := by decide +kernel
theorem dX10_find_35 : decode cX10_find 35 = .ok (.iload_n 3, 1) := by decide +kernel
theorem dX10_find_36 : decode cX10_find 36 = .ok (.invokestatic 187, 3) := by decide +kernel
theorem dX10_find_39 : decode cX10_find 39 = .ok (.ior, 1) := by decide +kernel
theorem dX10_find_40 : decode cX10_find 40 = .ok (.istore 7, 2) := by decide +kernel
theorem dX10_find_42 : decode cX10_find 42 = .ok (.iconst 3, 1) := by decide +kernel
theorem dX10_find_43 : decode cX10_find 43 = .ok (.iload 4, 2) := by decide +kernel
theorem dX10_find_45 : decode cX10_find 45 = .ok (.invokestatic 187, 3) := by decide +kernel
theorem dX10_find_48 : decode cX10_find 48 = .ok (.iconst 4, 1) := by decide +kernel
theorem dX10_find_49 : decode cX10_find 49 = .ok (.iload 5, 2) := by decide +kernel
theorem dX10_find_51 : decode cX10_find 51 = .ok (.invokestatic 187, 3) := by decide +kernel
theorem dX10_find_54 : decode cX10_find 54 = .ok (.ior, 1) := by decide +kernel
theorem dX10_find_55 : decode cX10_find 55 = .ok (.iconst 5, 1) := by decide +kernel
theorem dX10_find_56 : decode cX10_find 56 = .ok (.iload 6, 2) := by decide +kernel
theorem dX10_find_58 : decode cX10_find 58 = .ok (.invokestatic 187, 3) := by decide +kernel
theorem dX10_find_61 : decode cX10_find 61 = .ok (.ior, 1) := by decide +kernel
theorem dX10_find_62 : decode cX10_find 62 = .ok (.istore 8, 2) := by decide +kernel
theorem dX10_find_64 : decode cX10_find 64 = .ok (.aload_n 0, 1) := by decide +kernel
theorem dX10_find_65 : decode cX10_find 65 = .ok (.getfield 21, 3) := by decide +kernel
theorem dX10_find_68 : decode cX10_find 68 = .ok (.iload 7, 2) := by decide +kernel
theorem dX10_find_70 : decode cX10_find 70 = .ok (.iload 8, 2) := by decide +kernel
theorem dX10_find_72 : decode cX10_find 72 = .ok (.ior, 1) := by decide +kernel
theorem dX10_find_73 : decode cX10_find 73 = .ok (.invokevirtual 190, 3) := by decide +kernel
theorem dX10_find_76 : decode cX10_find 76 = .ok (.ireturn, 1) := by decide +kernel
set_option maxRecDepth 20000 in
theorem ggX10_price_X10_within : GoodIn wsX10_price wsX10_within := goodIn_r _ [9] (by decide +kernel) (by decide +kernel)
set_option maxRecDepth 20000 in
theorem gX10_price_X10_within : GoodIn wsX10_price (va_wsS RX10 94 yX10_within wsX10_within) := goodIn_app (goodIn_of _ (by decide +kernel)) ggX10_price_X10_within
set_option maxRecDepth 20000 in
theorem ggX10_price_X4_isWidth : GoodIn wsX10_price wsX4_isWidth := goodIn_r _ [14, 15, 37, 38, 39, 40, 41, 42, 43, 44] (by decide +kernel) (by decide +kernel)
set_option maxRecDepth 20000 in
theorem gX10_price_X4_isWidth : GoodIn wsX10_price (wsV RX10 133 RX4 yX4_isWidth wsX4_isWidth) := goodIn_app (goodIn_of _ (by decide +kernel)) ggX10_price_X4_isWidth
theorem dX10_price_0 : decode cX10_price 0 = .ok (.iload_n 1, 1) := by decide +kernel
theorem dX10_price_1 : decode cX10_price 1 = .ok (.iconst (-1), 1) := by decide +kernel
theorem dX10_price_2 : decode cX10_price 2 = .ok (.if_icmp .ne 25, 3) := by decide +kernel
theorem dX10_price_5 : decode cX10_price 5 = .ok (.iload_n 2, 1) := by decide +kernel
theorem dX10_price_6 : decode cX10_price 6 = .ok (.iconst 1, 1) := by decide +kernel
theorem dX10_price_7 : decode cX10_price 7 = .ok (.ldc 193, 2) := by decide +kernel
theorem dX10_price_9 : decode cX10_price 9 = .ok (.invokestatic 94, 3) := by decide +kernel
theorem dX10_price_12 : decode cX10_price 12 = .ok (.ifCond .ne 5, 3) := by decide +kernel
theorem dX10_price_15 : decode cX10_price 15 = .ok (.iconst 0, 1) := by decide +kernel
theorem dX10_price_16 : decode cX10_price 16 = .ok (.ireturn, 1) := by decide +kernel
theorem dX10_price_17 : decode cX10_price 17 = .ok (.aload_n 0, 1) := by decide +kernel
theorem dX10_price_18 : decode cX10_price 18 = .ok (.getfield 28, 3) := by decide +kernel
theorem dX10_price_21 : decode cX10_price 21 = .ok (.iload_n 2, 1) := by decide +kernel
theorem dX10_price_22 : decode cX10_price 22 = .ok (.putfield 194, 3) := by decide +kernel
theorem dX10_price_25 : decode cX10_price 25 = .ok (.iconst 1, 1) := by decide +kernel
theorem dX10_price_26 : decode cX10_price 26 = .ok (.ireturn, 1) := by decide +kernel
theorem dX10_price_27 : decode cX10_price 27 = .ok (.aload_n 0, 1) := by decide +kernel
theorem dX10_price_28 : decode cX10_price 28 = .ok (.getfield 10, 3) := by decide +kernel
theorem dX10_price_31 : decode cX10_price 31 = .ok (.iload_n 1, 1) := by decide +kernel
theorem dX10_price_32 : decode cX10_price 32 = .ok (.invokevirtual 133, 3) := by decide +kernel
theorem dX10_price_35 : decode cX10_price 35 = .ok (.ifCond .eq 13, 3) := by decide +kernel
theorem dX10_price_38 : decode cX10_price 38 = .ok (.iload_n 2, 1) := by decide +kernel
theorem dX10_price_39 : decode cX10_price 39 = .ok (.iconst 0, 1) := by decide +kernel
theorem dX10_price_40 : decode cX10_price 40 = .ok (.ldc 193, 2) := by decide +kernel
theorem dX10_price_42 : decode cX10_price 42 = .ok (.invokestatic 94, 3) := by decide +kernel
theorem dX10_price_45 : decode cX10_price 45 = .ok (.ifCond .ne 5, 3) := by decide +kernel
theorem dX10_price_48 : decode cX10_price 48 = .ok (.iconst 0, 1) := by decide +kernel
theorem dX10_price_49 : decode cX10_price 49 = .ok (.ireturn, 1) := by decide +kernel
theorem dX10_price_50 : decode cX10_price 50 = .ok (.aload_n 0, 1) := by decide +kernel
theorem dX10_price_51 : decode cX10_price 51 = .ok (.getfield 28, 3) := by decide +kernel
theorem dX10_price_54 : decode cX10_price 54 = .ok (.getfield 149, 3) := by decide +kernel
theorem dX10_price_57 : decode cX10_price 57 = .ok (.iload_n 1, 1) := by decide +kernel
theorem dX10_price_58 : decode cX10_price 58 = .ok (.iload_n 2, 1) := by decide +kernel
theorem dX10_price_59 : decode cX10_price 59 = .ok (.iastore, 1) := by decide +kernel
theorem dX10_price_60 : decode cX10_price 60 = .ok (.iconst 1, 1) := by decide +kernel
theorem dX10_price_61 : decode cX10_price 61 = .ok (.ireturn, 1) := by decide +kernel
set_option maxRecDepth 20000 in
theorem ggX10_best_X5_isOverfull : GoodIn wsX10_best wsX5_isOverfull := goodIn_r _ [6, 7, 8, 9, 10, 5, 11, 12, 13, 14, 15, 16, 17, 18, 19, 20, 21, 22, 23, 24, 25, 26, 27, 28, 29, 30, 31, 32, 33, 34, 35, 36, 37, 38, 39, 40, 41, 42, 43, 44, 84, 85, 86, 87, 88, 89, 90, 91, 92, 93, 94, 95, 96] (by decide +kernel) (by decide +kernel)
set_option maxRecDepth 20000 in
theorem gX10_best_X5_isOverfull : GoodIn wsX10_best (wsV RX10 155 RX5 yX5_isOverfull wsX5_isOverfull) := goodIn_app (goodIn_of _ (by decide +kernel)) ggX10_best_X5_isOverfull
set_option maxRecDepth 20000 in
theorem ggX10_best_X10_worthiest : GoodIn wsX10_best wsX10_worthiest := goodIn_r _ [48, 1, 49, 50, 51, 52, 5, 53, 13, 8, 9, 10, 11, 12, 7, 14, 15, 16, 17, 18, 19, 20, 21, 22, 23, 24, 25, 26, 27, 28, 29, 30, 31, 32, 33, 34, 35, 36, 37, 38, 39, 40, 41, 42, 43, 44, 54, 55, 56, 57, 58, 59, 60, 61, 62, 63, 64, 65, 66, 67, 68, 69, 70, 71, 72, 73, 74, 75, 76, 77, 78, 79, 80, 81, 82, 83, 84, 85, 86, 87, 88, 89, 90, 91, 92, 93, 94, 95, 96, 97, 98, 99, 100, 101, 102] (by decide +kernel) (by decide +kernel)
set_option maxRecDepth 20000 in
theorem gX10_best_X10_worthiest : GoodIn wsX10_best (wsV RX10 197 RX10 yX10_worthiest wsX10_worthiest) := goodIn_app (goodIn_of _ (by decide +kernel)) ggX10_best_X10_worthiest
theorem dX10_best_0 : decode cX10_best 0 = .ok (.aload_n 0, 1) := by decide +kernel
theorem dX10_best_1 : decode cX10_best 1 = .ok (.getfield 21, 3) := by decide +kernel
theorem dX10_best_4 : decode cX10_best 4 = .ok (.invokevirtual 155, 3) := by decide +kernel
theorem dX10_best_7 : decode cX10_best 7 = .ok (.ifCond .eq 7, 3) := by decide +kernel
theorem dX10_best_10 : decode cX10_best 10 = .ok (.iconst (-1), 1) := by decide +kernel
theorem dX10_best_11 : decode cX10_best 11 = .ok (.goto 7, 3) := by decide +kernel
theorem dX10_best_14 : decode cX10_best 14 = .ok (.aload_n 0, 1) := by decide +kernel
theorem dX10_best_15 : decode cX10_best 15 = .ok (.invokevirtual 197, 3) := by decide +kernel
theorem dX10_best_18 : decode cX10_best 18 = .ok (.ireturn, 1) := by decide +kernel
set_option maxRecDepth 20000 in
theorem ggX10_bound_X5_isOverfull : GoodIn wsX10_bound wsX5_isOverfull := goodIn_r _ [8, 9, 10, 11, 12, 7, 13, 14, 15, 16, 17, 18, 19, 20, 21, 22, 23, 24, 25, 26, 27, 28, 29, 30, 31, 32, 33, 34, 35, 36, 37, 38, 39, 40, 41, 42, 43, 44, 45, 46, 105, 106, 107, 108, 109, 110, 111, 112, 113, 114, 115, 116, 117] (by decide +kernel) (by decide +kernel)
set_option maxRecDepth 20000 in
theorem gX10_bound_X5_isOverfull : GoodIn wsX10_bound (wsV RX10 155 RX5 yX5_isOverfull wsX5_isOverfull) := goodIn_app (goodIn_of _ (by decide +kernel)) ggX10_bound_X5_isOverfull
set_option maxRecDepth 20000 in
theorem ggX10_bound_X10_worthiest : GoodIn wsX10_bound wsX10_worthiest := goodIn_r _ [50, 1, 2, 51, 52, 53, 7, 54, 15, 10, 11, 12, 13, 14, 9, 16, 17, 18, 19, 20, 21, 22, 23, 24, 25, 26, 27, 28, 29, 30, 31, 32, 33, 34, 35, 36, 37, 38, 39, 40, 41, 42, 43, 44, 45, 46, 55, 56, 57, 58, 59, 60, 61, 62, 63, 64, 65, 66, 67, 68, 69, 84, 85, 86, 87, 88, 89, 90, 91, 92, 93, 94, 95, 96, 97, 98, 105, 106, 107, 108, 109, 110, 111, 112, 113, 114, 115, 116, 117, 99, 100, 101, 102, 103, 104] (by decide +kernel) (by decide +kernel)
set_option maxRecDepth 20000 in
theorem gX10_bound_X10_worthiest : GoodIn wsX10_bound (wsV RX10 197 RX10 yX10_worthiest wsX10_worthiest) := goodIn_app (goodIn_of _ (by decide +kernel)) ggX10_bound_X10_worthiest
set_option maxRecDepth 20000 in
theorem ggX10_bound_X5_codeAt : GoodIn wsX10_bound wsX5_codeAt := goodIn_r _ [58, 15, 39, 105, 106, 107, 108, 109] (by decide +kernel) (by decide +kernel)
set_option maxRecDepth 20000 in
theorem gX10_bound_X5_codeAt : GoodIn wsX10_bound (wsV RX10 166 RX5 yX5_codeAt wsX5_codeAt) := goodIn_app (goodIn_of _ (by decide +kernel)) ggX10_bound_X5_codeAt
set_option maxRecDepth 20000 in
theorem ggX10_bound_X6_worthOf : GoodIn wsX10_bound wsX6_worthOf := goodIn_r _ [63, 64, 65, 66, 67, 68, 45, 69, 99, 100, 101, 102, 103, 104, 110, 111, 112, 113, 114, 115, 116, 117] (by decide +kernel) (by decide +kernel)
set_option maxRecDepth 20000 in
theorem gX10_bound_X6_worthOf : GoodIn wsX10_bound (wsV RX10 178 RX6 yX6_worthOf wsX6_worthOf) := goodIn_app (goodIn_of _ (by decide +kernel)) ggX10_bound_X6_worthOf
set_option maxRecDepth 20000 in
theorem ggX10_bound_X6_worthOfWanted : GoodIn wsX10_bound wsX6_worthOfWanted := goodIn_r _ [73, 64, 65, 66, 74, 75, 76, 62, 77, 78, 79, 80, 81, 33, 82, 99, 100, 101, 102, 103, 104, 110, 111, 112, 113, 114, 115, 116, 117] (by decide +kernel) (by decide +kernel)
set_option maxRecDepth 20000 in
theorem gX10_bound_X6_worthOfWanted : GoodIn wsX10_bound (wsV RX10 200 RX6 yX6_worthOfWanted wsX6_worthOfWanted) := goodIn_app (goodIn_of _ (by decide +kernel)) ggX10_bound_X6_worthOfWanted
set_option maxRecDepth 20000 in
theorem ggX10_bound_X10_quotient : GoodIn wsX10_bound wsX10_quotient := goodIn_r _ [42] (by decide +kernel) (by decide +kernel)
set_option maxRecDepth 20000 in
theorem gX10_bound_X10_quotient : GoodIn wsX10_bound (va_wsS RX10 203 yX10_quotient wsX10_quotient) := goodIn_app (goodIn_of _ (by decide +kernel)) ggX10_bound_X10_quotient
theorem dX10_bound_0 : decode cX10_bound 0 = .ok (.aload_n 0, 1) := by decide +kernel
theorem dX10_bound_1 : decode cX10_bound 1 = .ok (.getfield 21, 3) := by decide +kernel
theorem dX10_bound_4 : decode cX10_bound 4 = .ok (.invokevirtual 155, 3) := by decide +kernel
theorem dX10_bound_7 : decode cX10_bound 7 = .ok (.ifCond .eq 5, 3) := by decide +kernel
theorem dX10_bound_10 : decode cX10_bound 10 = .ok (.iconst (-1), 1) := by decide +kernel
theorem dX10_bound_11 : decode cX10_bound 11 = .ok (.ireturn, 1) := by decide +kernel
theorem dX10_bound_12 : decode cX10_bound 12 = .ok (.aload_n 0, 1) := by decide +kernel
theorem dX10_bound_13 : decode cX10_bound 13 = .ok (.invokevirtual 197, 3) := by decide +kernel
theorem dX10_bound_16 : decode cX10_bound 16 = .ok (.istore_n 1, 1) := by decide +kernel
theorem dX10_bound_17 : decode cX10_bound 17 = .ok (.iload_n 1, 1) := by decide +kernel
theorem dX10_bound_18 : decode cX10_bound 18 = .ok (.iconst (-1), 1) := by decide +kernel
theorem dX10_bound_19 : decode cX10_bound 19 = .ok (.if_icmp .eq 30, 3) := by decide +kernel
theorem dX10_bound_22 : decode cX10_bound 22 = .ok (.aload_n 0, 1) := by decide +kernel
theorem dX10_bound_23 : decode cX10_bound 23 = .ok (.getfield 28, 3) := by decide +kernel
theorem dX10_bound_26 : decode cX10_bound 26 = .ok (.aload_n 0, 1) := by decide +kernel
theorem dX10_bound_27 : decode cX10_bound 27 = .ok (.getfield 21, 3) := by decide +kernel
theorem dX10_bound_30 : decode cX10_bound 30 = .ok (.iload_n 1, 1) := by decide +kernel
theorem dX10_bound_31 : decode cX10_bound 31 = .ok (.invokevirtual 166, 3) := by decide +kernel
theorem dX10_bound_34 : decode cX10_bound 34 = .ok (.invokevirtual 178, 3) := by decide +kernel
theorem dX10_bound_37 : decode cX10_bound 37 = .ok (.aload_n 0, 1) := by decide +kernel
theorem dX10_bound_38 : decode cX10_bound 38 = .ok (.getfield 28, 3) := by decide +kernel
theorem dX10_bound_41 : decode cX10_bound 41 = .ok (.getfield 194, 3) := by decide +kernel
theorem dX10_bound_44 : decode cX10_bound 44 = .ok (.if_icmp .le 5, 3) := by decide +kernel
theorem dX10_bound_47 : decode cX10_bound 47 = .ok (.iconst (-1), 1) := by decide +kernel
theorem dX10_bound_48 : decode cX10_bound 48 = .ok (.ireturn, 1) := by decide +kernel
theorem dX10_bound_49 : decode cX10_bound 49 = .ok (.aload_n 0, 1) := by decide +kernel
theorem dX10_bound_50 : decode cX10_bound 50 = .ok (.getfield 28, 3) := by decide +kernel
theorem dX10_bound_53 : decode cX10_bound 53 = .ok (.invokevirtual 200, 3) := by decide +kernel
theorem dX10_bound_56 : decode cX10_bound 56 = .ok (.aload_n 0, 1) := by decide +kernel
theorem dX10_bound_57 : decode cX10_bound 57 = .ok (.getfield 28, 3) := by decide +kernel
theorem dX10_bound_60 : decode cX10_bound 60 = .ok (.getfield 194, 3) := by decide +kernel
theorem dX10_bound_63 : decode cX10_bound 63 = .ok (.iadd, 1) := by decide +kernel
theorem dX10_bound_64 : decode cX10_bound 64 = .ok (.iconst 1, 1) := by decide +kernel
theorem dX10_bound_65 : decode cX10_bound 65 = .ok (.isub, 1) := by decide +kernel
theorem dX10_bound_66 : decode cX10_bound 66 = .ok (.aload_n 0, 1) := by decide +kernel
theorem dX10_bound_67 : decode cX10_bound 67 = .ok (.getfield 28, 3) := by decide +kernel
theorem dX10_bound_70 : decode cX10_bound 70 = .ok (.getfield 194, 3) := by decide +kernel
theorem dX10_bound_73 : decode cX10_bound 73 = .ok (.invokestatic 203, 3) := by decide +kernel
theorem dX10_bound_76 : decode cX10_bound 76 = .ok (.ireturn, 1) := by decide +kernel
set_option maxRecDepth 20000 in
theorem ggX10_greedy_X10_isWantedWithoutRoom : GoodIn wsX10_greedy wsX10_isWantedWithoutRoom := goodIn_r _ [8, 9, 10, 2, 11, 12, 13, 14, 15, 16, 17, 18, 19, 20, 21, 22, 23, 24, 25, 26, 27, 28, 29, 83, 84, 85, 86, 87, 88, 89, 90, 91, 92, 93, 94, 95, 96, 97, 98, 99, 100, 101, 102, 103, 104, 105, 106, 107, 108, 109, 110, 111] (by decide +kernel) (by decide +kernel)
set_option maxRecDepth 20000 in
theorem gX10_greedy_X10_isWantedWithoutRoom : GoodIn wsX10_greedy (wsV RX10 206 RX10 yX10_isWantedWithoutRoom wsX10_isWantedWithoutRoom) := goodIn_app (goodIn_of _ (by decide +kernel)) ggX10_greedy_X10_isWantedWithoutRoom
set_option maxRecDepth 20000 in
theorem ggX10_greedy_X8_clear : GoodIn wsX10_greedy wsX8_clear := goodIn_r _ [34, 35, 112, 113, 114] (by decide +kernel) (by decide +kernel)
set_option maxRecDepth 20000 in
theorem gX10_greedy_X8_clear : GoodIn wsX10_greedy (wsV RX10 209 RX8 yX8_clear wsX8_clear) := goodIn_app (goodIn_of _ (by decide +kernel)) ggX10_greedy_X8_clear
set_option maxRecDepth 20000 in
theorem ggX10_greedy_X6_startOpen : GoodIn wsX10_greedy wsX6_startOpen := goodIn_r _ [39, 40, 41, 42, 43, 13, 14, 15, 16, 17, 18, 19, 20, 21, 22, 106, 107, 108, 109, 110, 111, 98, 99, 100, 101, 102, 103, 104, 105] (by decide +kernel) (by decide +kernel)
set_option maxRecDepth 20000 in
theorem gX10_greedy_X6_startOpen : GoodIn wsX10_greedy (wsV RX10 212 RX6 yX6_startOpen wsX6_startOpen) := goodIn_app (goodIn_of _ (by decide +kernel)) ggX10_greedy_X6_startOpen
set_option maxRecDepth 20000 in
theorem ggX10_greedy_X6_isAnyOpen : GoodIn wsX10_greedy wsX6_isAnyOpen := goodIn_r _ [47, 40, 41, 42, 106, 107, 108, 109, 110, 111, 98, 99, 100, 101, 102, 103, 104, 105] (by decide +kernel) (by decide +kernel)
set_option maxRecDepth 20000 in
theorem gX10_greedy_X6_isAnyOpen : GoodIn wsX10_greedy (wsV RX10 215 RX6 yX6_isAnyOpen wsX6_isAnyOpen) := goodIn_app (goodIn_of _ (by decide +kernel)) ggX10_greedy_X6_isAnyOpen
set_option maxRecDepth 20000 in
theorem ggX10_greedy_X6_takeGreedily : GoodIn wsX10_greedy wsX6_takeGreedily := goodIn_r _ [51, 40, 52, 41, 53, 42, 54, 55, 56, 21, 57, 58, 24, 25, 26, 27, 28, 29, 59, 7, 60, 61, 62, 63, 64, 106, 107, 108, 109, 110, 111, 98, 99, 100, 101, 102, 103, 104, 105] (by decide +kernel) (by decide +kernel)
set_option maxRecDepth 20000 in
theorem gX10_greedy_X6_takeGreedily : GoodIn wsX10_greedy (wsV RX10 218 RX6 yX6_takeGreedily wsX6_takeGreedily) := goodIn_app (goodIn_of _ (by decide +kernel)) ggX10_greedy_X6_takeGreedily
set_option maxRecDepth 20000 in
theorem ggX10_greedy_X8_addRoll : GoodIn wsX10_greedy wsX8_addRoll := goodIn_r _ [68, 35, 69, 70, 71, 72, 73, 33, 74, 75, 76, 77, 78, 112, 113, 114] (by decide +kernel) (by decide +kernel)
set_option maxRecDepth 20000 in
theorem gX10_greedy_X8_addRoll : GoodIn wsX10_greedy (wsV RX10 221 RX8 yX8_addRoll wsX8_addRoll) := goodIn_app (goodIn_of _ (by decide +kernel)) ggX10_greedy_X8_addRoll
set_option maxRecDepth 20000 in
theorem ggX10_greedy_X8_copyFrom : GoodIn wsX10_greedy wsX8_copyFrom := goodIn_r _ [82, 35, 69, 70, 112, 113, 114] (by decide +kernel) (by decide +kernel)
set_option maxRecDepth 20000 in
theorem gX10_greedy_X8_copyFrom : GoodIn wsX10_greedy (wsV RX10 224 RX8 yX8_copyFrom wsX8_copyFrom) := goodIn_app (goodIn_of _ (by decide +kernel)) ggX10_greedy_X8_copyFrom
theorem dX10_greedy_0 : decode cX10_greedy 0 = .ok (.aload_n 0, 1) := by decide +kernel
theorem dX10_greedy_1 : decode cX10_greedy 1 = .ok (.invokevirtual 206, 3) := by decide +kernel
theorem dX10_greedy_4 : decode cX10_greedy 4 = .ok (.ifCond .eq 6, 3) := by decide +kernel
theorem dX10_greedy_7 : decode cX10_greedy 7 = .ok (.bipush (-2), 2) := by decide +kernel
theorem dX10_greedy_9 : decode cX10_greedy 9 = .ok (.ireturn, 1) := by decide +kernel
theorem dX10_greedy_10 : decode cX10_greedy 10 = .ok (.aload_n 0, 1) := by decide +kernel
theorem dX10_greedy_11 : decode cX10_greedy 11 = .ok (.getfield 42, 3) := by decide +kernel
theorem dX10_greedy_14 : decode cX10_greedy 14 = .ok (.invokevirtual 209, 3) := by decide +kernel
theorem dX10_greedy_17 : decode cX10_greedy 17 = .ok (.aload_n 0, 1) := by decide +kernel
theorem dX10_greedy_18 : decode cX10_greedy 18 = .ok (.getfield 28, 3) := by decide +kernel
theorem dX10_greedy_21 : decode cX10_greedy 21 = .ok (.invokevirtual 212, 3) := by decide +kernel
theorem dX10_greedy_24 : decode cX10_greedy 24 = .ok (.iconst 0, 1) := by decide +kernel
theorem dX10_greedy_25 : decode cX10_greedy 25 = .ok (.istore_n 1, 1) := by decide +kernel
theorem dX10_greedy_26 : decode cX10_greedy 26 = .ok (.iconst 0, 1) := by decide +kernel
theorem dX10_greedy_27 : decode cX10_greedy 27 = .ok (.istore_n 2, 1) := by decide +kernel
theorem dX10_greedy_28 : decode cX10_greedy 28 = .ok (.iload_n 2, 1) := by decide +kernel
theorem dX10_greedy_29 : decode cX10_greedy 29 = .ok (.sipush 240, 3) := by decide +kernel
theorem dX10_greedy_32 : decode cX10_greedy 32 = .ok (.if_icmp .ge 42, 3) := by decide +kernel
theorem dX10_greedy_35 : decode cX10_greedy 35 = .ok (.aload_n 0, 1) := by decide +kernel
theorem dX10_greedy_36 : decode cX10_greedy 36 = .ok (.getfield 28, 3) := by decide +kernel
theorem dX10_greedy_39 : decode cX10_greedy 39 = .ok (.invokevirtual 215, 3) := by decide +kernel
theorem dX10_greedy_42 : decode cX10_greedy 42 = .ok (.ifCond .eq 32, 3) := by decide +kernel
theorem dX10_greedy_45 : decode cX10_greedy 45 = .ok (.aload_n 0, 1) := by decide +kernel
theorem dX10_greedy_46 : decode cX10_greedy 46 = .ok (.getfield 42, 3) := by decide +kernel
theorem dX10_greedy_49 : decode cX10_greedy 49 = .ok (.aload_n 0, 1) := by decide +kernel
theorem dX10_greedy_50 : decode cX10_greedy 50 = .ok (.getfield 28, 3) := by decide +kernel
theorem dX10_greedy_53 : decode cX10_greedy 53 = .ok (.invokevirtual 218, 3) := by decide +kernel
theorem dX10_greedy_56 : decode cX10_greedy 56 = .ok (.invokevirtual 221, 3) := by decide +kernel
theorem dX10_greedy_59 : decode cX10_greedy 59 = .ok (.ifCond .ne 6, 3) := by decide +kernel
theorem dX10_greedy_62 : decode cX10_greedy 62 = .ok (.bipush (-3), 2) := by decide +kernel
theorem dX10_greedy_64 : decode cX10_greedy 64 = .ok (.ireturn, 1) := by decide +kernel
theorem dX10_greedy_65 : decode cX10_greedy 65 = .ok (.iinc 1 1, 3) := by decide +kernel
theorem dX10_greedy_68 : decode cX10_greedy 68 = .ok (.iinc 2 1, 3) := by decide +kernel
theorem dX10_greedy_71 : decode cX10_greedy 71 = .ok (.goto (-43), 3) := by decide +kernel
theorem dX10_greedy_74 : decode cX10_greedy 74 = .ok (.aload_n 0, 1) := by decide +kernel
theorem dX10_greedy_75 : decode cX10_greedy 75 = .ok (.getfield 35, 3) := by decide +kernel
theorem dX10_greedy_78 : decode cX10_greedy 78 = .ok (.aload_n 0, 1) := by decide +kernel
theorem dX10_greedy_79 : decode cX10_greedy 79 = .ok (.getfield 42, 3) := by decide +kernel
theorem dX10_greedy_82 : decode cX10_greedy 82 = .ok (.invokevirtual 224, 3) := by decide +kernel
theorem dX10_greedy_85 : decode cX10_greedy 85 = .ok (.iload_n 1, 1) := by decide +kernel
theorem dX10_greedy_86 : decode cX10_greedy 86 = .ok (.ireturn, 1) := by decide +kernel
set_option maxRecDepth 20000 in
theorem ggX10_fewest_X5_isOverfull : GoodIn wsX10_fewest wsX5_isOverfull := goodIn_r _ [10, 11, 12, 13, 14, 9, 15, 16, 17, 18, 19, 20, 21, 22, 23, 24, 25, 26, 27, 28, 29, 30, 31, 32, 33, 34, 35, 36, 37, 38, 39, 40, 41, 42, 43, 44, 45, 46, 47, 48, 192, 193, 194, 195, 196, 197, 198, 199, 200, 201, 202, 203, 204] (by decide +kernel) (by decide +kernel)
set_option maxRecDepth 20000 in
theorem gX10_fewest_X5_isOverfull : GoodIn wsX10_fewest (wsV RX10 155 RX5 yX5_isOverfull wsX5_isOverfull) := goodIn_app (goodIn_of _ (by decide +kernel)) ggX10_fewest_X5_isOverfull
set_option maxRecDepth 20000 in
theorem ggX10_fewest_X5_count : GoodIn wsX10_fewest wsX5_count := goodIn_r _ [52, 17, 12, 13, 14, 9, 15, 16, 11, 18, 19, 20, 21, 22, 23, 24, 25, 26, 27, 28, 29, 30, 31, 32, 33, 34, 35, 36, 37, 38, 39, 40, 41, 42, 43, 44, 45, 46, 47, 48, 192, 193, 194, 195, 196, 197, 198, 199, 200, 201, 202, 203, 204] (by decide +kernel) (by decide +kernel)
set_option maxRecDepth 20000 in
theorem gX10_fewest_X5_count : GoodIn wsX10_fewest (wsV RX10 158 RX5 yX5_count wsX5_count) := goodIn_app (goodIn_of _ (by decide +kernel)) ggX10_fewest_X5_count
set_option maxRecDepth 20000 in
theorem ggX10_fewest_X7_start : GoodIn wsX10_fewest wsX7_start := goodIn_r _ [57, 58, 59, 60, 61, 62, 63, 64, 65, 66, 67, 68, 69, 70, 71, 72, 35, 73, 205, 206, 207, 208, 209, 210, 211, 212, 213, 197, 198, 199, 200, 201, 202, 203, 204, 214, 215, 216, 217, 218, 219] (by decide +kernel) (by decide +kernel)
set_option maxRecDepth 20000 in
theorem gX10_fewest_X7_start : GoodIn wsX10_fewest (wsV RX10 228 RX7 yX7_start wsX7_start) := goodIn_app (goodIn_of _ (by decide +kernel)) ggX10_fewest_X7_start
set_option maxRecDepth 20000 in
theorem ggX10_fewest_X10_isWantedWithoutRoom : GoodIn wsX10_fewest wsX10_isWantedWithoutRoom := goodIn_r _ [77, 78, 79, 3, 80, 81, 65, 66, 67, 68, 69, 70, 71, 72, 35, 73, 82, 21, 22, 23, 24, 25, 26, 177, 178, 179, 180, 181, 182, 183, 184, 185, 186, 187, 188, 189, 190, 191, 197, 198, 199, 200, 201, 202, 203, 204, 214, 215, 216, 217, 218, 219] (by decide +kernel) (by decide +kernel)
set_option maxRecDepth 20000 in
theorem gX10_fewest_X10_isWantedWithoutRoom : GoodIn wsX10_fewest (wsV RX10 206 RX10 yX10_isWantedWithoutRoom wsX10_isWantedWithoutRoom) := goodIn_app (goodIn_of _ (by decide +kernel)) ggX10_fewest_X10_isWantedWithoutRoom
set_option maxRecDepth 20000 in
theorem ggX10_fewest_X7_solve : GoodIn wsX10_fewest wsX7_solve := goodIn_r _ [86, 59, 60, 87, 88, 58, 89, 90, 91, 92, 56, 93, 94, 95, 96, 50, 51, 9, 52, 17, 12, 13, 14, 15, 16, 11, 18, 19, 20, 21, 22, 23, 24, 25, 26, 27, 28, 29, 30, 31, 32, 33, 34, 35, 36, 37, 38, 39, 40, 41, 42, 43, 44, 45, 46, 47, 48, 97, 98, 99, 100, 101, 102, 103, 104, 105, 61, 106, 107, 108, 109, 110, 111, 112, 113, 114, 115, 116, 117, 118, 119, 120, 121, 122, 123, 124, 125, 126, 127, 128, 129, 62, 130, 72, 73, 131, 132, 133, 134, 135, 205, 206, 207, 208, 209, 210, 211, 212, 213, 197, 198, 199, 200, 201, 202, 203, 204, 192, 193, 194, 195, 196] (by decide +kernel) (by decide +kernel)
set_option maxRecDepth 20000 in
theorem gX10_fewest_X7_solve : GoodIn wsX10_fewest (wsV RX10 232 RX7 yX7_solve wsX7_solve) := goodIn_app (goodIn_of _ (by decide +kernel)) ggX10_fewest_X7_solve
set_option maxRecDepth 20000 in
theorem ggX10_fewest_X7_rollsLeft : GoodIn wsX10_fewest wsX7_rollsLeft := goodIn_r _ [139, 88, 89, 205, 206, 207, 208, 209, 210, 211, 212, 213] (by decide +kernel) (by decide +kernel)
set_option maxRecDepth 20000 in
theorem gX10_fewest_X7_rollsLeft : GoodIn wsX10_fewest (wsV RX10 236 RX7 yX7_rollsLeft wsX7_rollsLeft) := goodIn_app (goodIn_of _ (by decide +kernel)) ggX10_fewest_X7_rollsLeft
set_option maxRecDepth 20000 in
theorem ggX10_fewest_X10_draftFewest : GoodIn wsX10_fewest wsX10_draftFewest := goodIn_r _ [143, 5, 2, 1, 144, 145, 146, 147, 148, 149, 150, 151, 152, 56, 153, 88, 89, 96, 50, 51, 9, 52, 17, 12, 13, 14, 15, 16, 11, 18, 19, 20, 21, 22, 23, 24, 25, 26, 27, 28, 29, 30, 31, 32, 33, 34, 35, 36, 37, 38, 39, 40, 41, 42, 43, 44, 45, 46, 47, 48, 97, 98, 99, 100, 131, 132, 133, 134, 59, 60, 87, 135, 62, 121, 115, 116, 154, 155, 156, 157, 158, 159, 160, 161, 162, 163, 164, 165, 166, 167, 168, 169, 170, 171, 172, 130, 72, 73, 177, 178, 179, 180, 181, 182, 183, 184, 185, 186, 187, 188, 189, 190, 191, 220, 221, 222, 205, 206, 207, 208, 209, 210, 211, 212, 213, 192, 193, 194, 195, 196, 197, 198, 199, 200, 201, 202, 203, 204] (by decide +kernel) (by decide +kernel)
set_option maxRecDepth 20000 in
theorem gX10_fewest_X10_draftFewest : GoodIn wsX10_fewest (wsV RX10 239 RX10 yX10_draftFewest wsX10_draftFewest) := goodIn_app (goodIn_of _ (by decide +kernel)) ggX10_fewest_X10_draftFewest
set_option maxRecDepth 20000 in
theorem ggX10_fewest_X8_copyFrom : GoodIn wsX10_fewest wsX8_copyFrom := goodIn_r _ [176, 149, 159, 160, 220, 221, 222] (by decide +kernel) (by decide +kernel)
set_option maxRecDepth 20000 in
theorem gX10_fewest_X8_copyFrom : GoodIn wsX10_fewest (wsV RX10 224 RX8 yX8_copyFrom wsX8_copyFrom) := goodIn_app (goodIn_of _ (by decide +kernel)) ggX10_fewest_X8_copyFrom
theorem dX10_fewest_0 : decode cX10_fewest 0 = .ok (.aload_n 0, 1) := by decide +kernel
theorem dX10_fewest_1 : decode cX10_fewest 1 = .ok (.getfield 21, 3) := by decide +kernel
theorem dX10_fewest_4 : decode cX10_fewest 4 = .ok (.invokevirtual 155, 3) := by decide +kernel
theorem dX10_fewest_7 : decode cX10_fewest 7 = .ok (.ifCond .ne 24, 3) := by decide +kernel
theorem dX10_fewest_10 : decode cX10_fewest 10 = .ok (.aload_n 0, 1) := by decide +kernel
theorem dX10_fewest_11 : decode cX10_fewest 11 = .ok (.getfield 68, 3) := by decide +kernel
theorem dX10_fewest_14 : decode cX10_fewest 14 = .ok (.aload_n 0, 1) := by decide +kernel
theorem dX10_fewest_15 : decode cX10_fewest 15 = .ok (.getfield 28, 3) := by decide +kernel
theorem dX10_fewest_18 : decode cX10_fewest 18 = .ok (.aload_n 0, 1) := by decide +kernel
theorem dX10_fewest_19 : decode cX10_fewest 19 = .ok (.getfield 21, 3) := by decide +kernel
theorem dX10_fewest_22 : decode cX10_fewest 22 = .ok (.invokevirtual 158, 3) := by decide +kernel
theorem dX10_fewest_25 : decode cX10_fewest 25 = .ok (.invokevirtual 228, 3) := by decide +kernel
theorem dX10_fewest_28 : decode cX10_fewest 28 = .ok (.ifCond .ne 6, 3) := by decide +kernel
theorem dX10_fewest_31 : decode cX10_fewest 31 = .ok (.bipush (-4), 2) := by decide +kernel
theorem dX10_fewest_33 : decode cX10_fewest 33 = .ok (.ireturn, 1) := by decide +kernel
theorem dX10_fewest_34 : decode cX10_fewest 34 = .ok (.aload_n 0, 1) := by decide +kernel
theorem dX10_fewest_35 : decode cX10_fewest 35 = .ok (.invokevirtual 206, 3) := by decide +kernel
theorem dX10_fewest_38 : decode cX10_fewest 38 = .ok (.ifCond .eq 6, 3) := by decide +kernel
theorem dX10_fewest_41 : decode cX10_fewest 41 = .ok (.bipush (-2), 2) := by decide +kernel
theorem dX10_fewest_43 : decode cX10_fewest 43 = .ok (.ireturn, 1) := by decide +kernel
theorem dX10_fewest_44 : decode cX10_fewest 44 = .ok (.aload_n 0, 1) := by decide +kernel
theorem dX10_fewest_45 : decode cX10_fewest 45 = .ok (.getfield 68, 3) := by decide +kernel
theorem dX10_fewest_48 : decode cX10_fewest 48 = .ok (.aload_n 0, 1) := by decide +kernel
theorem dX10_fewest_49 : decode cX10_fewest 49 = .ok (.getfield 21, 3) := by decide +kernel
theorem dX10_fewest_52 : decode cX10_fewest 52 = .ok (.invokevirtual 232, 3) := by decide +kernel
theorem dX10_fewest_55 : decode cX10_fewest 55 = .ok (.aload_n 0, 1) := by decide +kernel
theorem dX10_fewest_56 : decode cX10_fewest 56 = .ok (.getfield 68, 3) := by decide +kernel
theorem dX10_fewest_59 : decode cX10_fewest 59 = .ok (.invokevirtual 236, 3) := by decide +kernel
theorem dX10_fewest_62 : decode cX10_fewest 62 = .ok (.istore_n 1, 1) := by decide +kernel
theorem dX10_fewest_63 : decode cX10_fewest 63 = .ok (.aload_n 0, 1) := by decide +kernel
theorem dX10_fewest_64 : decode cX10_fewest 64 = .ok (.iload_n 1, 1) := by decide +kernel
theorem dX10_fewest_65 : decode cX10_fewest 65 = .ok (.invokevirtual 239, 3) := by decide +kernel
theorem dX10_fewest_68 : decode cX10_fewest 68 = .ok (.ifCond .ne 6, 3) := by decide +kernel
theorem dX10_fewest_71 : decode cX10_fewest 71 = .ok (.bipush (-3), 2) := by decide +kernel
theorem dX10_fewest_73 : decode cX10_fewest 73 = .ok (.ireturn, 1) := by decide +kernel
theorem dX10_fewest_74 : decode cX10_fewest 74 = .ok (.aload_n 0, 1) := by decide +kernel
theorem dX10_fewest_75 : decode cX10_fewest 75 = .ok (.getfield 35, 3) := by decide +kernel
theorem dX10_fewest_78 : decode cX10_fewest 78 = .ok (.aload_n 0, 1) := by decide +kernel
theorem dX10_fewest_79 : decode cX10_fewest 79 = .ok (.getfield 42, 3) := by decide +kernel
theorem dX10_fewest_82 : decode cX10_fewest 82 = .ok (.invokevirtual 224, 3) := by decide +kernel
theorem dX10_fewest_85 : decode cX10_fewest 85 = .ok (.iload_n 1, 1) := by decide +kernel
theorem dX10_fewest_86 : decode cX10_fewest 86 = .ok (.ireturn, 1) := by decide +kernel
set_option maxRecDepth 20000 in
theorem ggX10_slot_X5_isNumber : GoodIn wsX10_slot wsX5_isNumber := goodIn_r _ [8, 9, 10, 11, 7, 12, 13, 14, 15, 16, 17, 18, 19, 20, 21, 22, 23, 24, 25, 26, 27, 28, 29, 30, 31, 32, 33, 34, 35, 36, 37, 38, 39, 40, 41, 42, 43, 44, 45, 46, 47, 48, 49, 50, 89, 90, 91, 92, 93, 94, 95, 96, 97, 98, 99, 100, 101] (by decide +kernel) (by decide +kernel)
set_option maxRecDepth 20000 in
theorem gX10_slot_X5_isNumber : GoodIn wsX10_slot (wsV RX10 161 RX5 yX5_isNumber wsX5_isNumber) := goodIn_app (goodIn_of _ (by decide +kernel)) ggX10_slot_X5_isNumber
set_option maxRecDepth 20000 in
theorem ggX10_slot_X10_within : GoodIn wsX10_slot wsX10_within := goodIn_r _ [53] (by decide +kernel) (by decide +kernel)
set_option maxRecDepth 20000 in
theorem gX10_slot_X10_within : GoodIn wsX10_slot (va_wsS RX10 94 yX10_within wsX10_within) := goodIn_app (goodIn_of _ (by decide +kernel)) ggX10_slot_X10_within
set_option maxRecDepth 20000 in
theorem ggX10_slot_X8_isFull : GoodIn wsX10_slot wsX8_isFull := goodIn_r _ [58, 59, 86, 87, 88] (by decide +kernel) (by decide +kernel)
set_option maxRecDepth 20000 in
theorem gX10_slot_X8_isFull : GoodIn wsX10_slot (wsV RX10 242 RX8 yX8_isFull wsX8_isFull) := goodIn_app (goodIn_of _ (by decide +kernel)) ggX10_slot_X8_isFull
set_option maxRecDepth 20000 in
theorem ggX10_slot_X5_codeAt : GoodIn wsX10_slot wsX5_codeAt := goodIn_r _ [63, 13, 43, 89, 90, 91, 92, 93] (by decide +kernel) (by decide +kernel)
set_option maxRecDepth 20000 in
theorem gX10_slot_X5_codeAt : GoodIn wsX10_slot (wsV RX10 166 RX5 yX5_codeAt wsX5_codeAt) := goodIn_app (goodIn_of _ (by decide +kernel)) ggX10_slot_X5_codeAt
set_option maxRecDepth 20000 in
theorem ggX10_slot_X8_add : GoodIn wsX10_slot wsX8_add := goodIn_r _ [67, 68, 59, 69, 70, 55, 56, 57, 58, 86, 87, 88] (by decide +kernel) (by decide +kernel)
set_option maxRecDepth 20000 in
theorem gX10_slot_X8_add : GoodIn wsX10_slot (wsV RX10 245 RX8 yX8_add wsX8_add) := goodIn_app (goodIn_of _ (by decide +kernel)) ggX10_slot_X8_add
theorem dX10_slot_0 : decode cX10_slot 0 = .ok (.aload_n 0, 1) := by decide +kernel
theorem dX10_slot_1 : decode cX10_slot 1 = .ok (.getfield 21, 3) := by decide +kernel
theorem dX10_slot_4 : decode cX10_slot 4 = .ok (.iload_n 1, 1) := by decide +kernel
theorem dX10_slot_5 : decode cX10_slot 5 = .ok (.invokevirtual 161, 3) := by decide +kernel
theorem dX10_slot_8 : decode cX10_slot 8 = .ok (.ifCond .eq 24, 3) := by decide +kernel
theorem dX10_slot_11 : decode cX10_slot 11 = .ok (.iload_n 2, 1) := by decide +kernel
theorem dX10_slot_12 : decode cX10_slot 12 = .ok (.iconst 1, 1) := by decide +kernel
theorem dX10_slot_13 : decode cX10_slot 13 = .ok (.sipush 1000, 3) := by decide +kernel
theorem dX10_slot_16 : decode cX10_slot 16 = .ok (.invokestatic 94, 3) := by decide +kernel
theorem dX10_slot_19 : decode cX10_slot 19 = .ok (.ifCond .eq 13, 3) := by decide +kernel
theorem dX10_slot_22 : decode cX10_slot 22 = .ok (.aload_n 0, 1) := by decide +kernel
theorem dX10_slot_23 : decode cX10_slot 23 = .ok (.getfield 35, 3) := by decide +kernel
theorem dX10_slot_26 : decode cX10_slot 26 = .ok (.invokevirtual 242, 3) := by decide +kernel
theorem dX10_slot_29 : decode cX10_slot 29 = .ok (.ifCond .eq 5, 3) := by decide +kernel
theorem dX10_slot_32 : decode cX10_slot 32 = .ok (.iconst (-1), 1) := by decide +kernel
theorem dX10_slot_33 : decode cX10_slot 33 = .ok (.ireturn, 1) := by decide +kernel
theorem dX10_slot_34 : decode cX10_slot 34 = .ok (.aload_n 0, 1) := by decide +kernel
theorem dX10_slot_35 : decode cX10_slot 35 = .ok (.getfield 35, 3) := by decide +kernel
theorem dX10_slot_38 : decode cX10_slot 38 = .ok (.aload_n 0, 1) := by decide +kernel
theorem dX10_slot_39 : decode cX10_slot 39 = .ok (.getfield 21, 3) := by decide +kernel
theorem dX10_slot_42 : decode cX10_slot 42 = .ok (.iload_n 1, 1) := by decide +kernel
theorem dX10_slot_43 : decode cX10_slot 43 = .ok (.invokevirtual 166, 3) := by decide +kernel
theorem dX10_slot_46 : decode cX10_slot 46 = .ok (.iload_n 2, 1) := by decide +kernel
theorem dX10_slot_47 : decode cX10_slot 47 = .ok (.invokevirtual 245, 3) := by decide +kernel
theorem dX10_slot_50 : decode cX10_slot 50 = .ok (.aload_n 0, 1) := by decide +kernel
theorem dX10_slot_51 : decode cX10_slot 51 = .ok (.getfield 35, 3) := by decide +kernel
theorem dX10_slot_54 : decode cX10_slot 54 = .ok (.getfield 249, 3) := by decide +kernel
theorem dX10_slot_57 : decode cX10_slot 57 = .ok (.iconst 1, 1) := by decide +kernel
theorem dX10_slot_58 : decode cX10_slot 58 = .ok (.isub, 1) := by decide +kernel
theorem dX10_slot_59 : decode cX10_slot 59 = .ok (.ireturn, 1) := by decide +kernel
set_option maxRecDepth 20000 in
theorem ggX10_drop_X8_clear : GoodIn wsX10_drop wsX8_clear := goodIn_r _ [6, 7, 33, 34, 35] (by decide +kernel) (by decide +kernel)
set_option maxRecDepth 20000 in
theorem gX10_drop_X8_clear : GoodIn wsX10_drop (wsV RX10 209 RX8 yX8_clear wsX8_clear) := goodIn_app (goodIn_of _ (by decide +kernel)) ggX10_drop_X8_clear
set_option maxRecDepth 20000 in
theorem ggX10_drop_X8_isSlot : GoodIn wsX10_drop wsX8_isSlot := goodIn_r _ [11, 7, 33, 34, 35] (by decide +kernel) (by decide +kernel)
set_option maxRecDepth 20000 in
theorem gX10_drop_X8_isSlot : GoodIn wsX10_drop (wsV RX10 252 RX8 yX8_isSlot wsX8_isSlot) := goodIn_app (goodIn_of _ (by decide +kernel)) ggX10_drop_X8_isSlot
set_option maxRecDepth 20000 in
theorem ggX10_drop_X8_remove : GoodIn wsX10_drop wsX8_remove := goodIn_r _ [15, 7, 16, 17, 33, 34, 35] (by decide +kernel) (by decide +kernel)
set_option maxRecDepth 20000 in
theorem gX10_drop_X8_remove : GoodIn wsX10_drop (wsV RX10 255 RX8 yX8_remove wsX8_remove) := goodIn_app (goodIn_of _ (by decide +kernel)) ggX10_drop_X8_remove
theorem dX10_drop_0 : decode cX10_drop 0 = .ok (.iload_n 1, 1) := by decide +kernel
theorem dX10_drop_1 : decode cX10_drop 1 = .ok (.iconst (-1), 1) := by decide +kernel
theorem dX10_drop_2 : decode cX10_drop 2 = .ok (.if_icmp .ne 12, 3) := by decide +kernel
theorem dX10_drop_5 : decode cX10_drop 5 = .ok (.aload_n 0, 1) := by decide +kernel
theorem dX10_drop_6 : decode cX10_drop 6 = .ok (.getfield 35, 3) := by decide +kernel
theorem dX10_drop_9 : decode cX10_drop 9 = .ok (.invokevirtual 209, 3) := by decide +kernel
theorem dX10_drop_12 : decode cX10_drop 12 = .ok (.iconst 1, 1) := by decide +kernel
theorem dX10_drop_13 : decode cX10_drop 13 = .ok (.ireturn, 1) := by decide +kernel
theorem dX10_drop_14 : decode cX10_drop 14 = .ok (.aload_n 0, 1) := by decide +kernel
theorem dX10_drop_15 : decode cX10_drop 15 = .ok (.getfield 35, 3) := by decide +kernel
theorem dX10_drop_18 : decode cX10_drop 18 = .ok (.iload_n 1, 1) := by decide +kernel
theorem dX10_drop_19 : decode cX10_drop 19 = .ok (.invokevirtual 252, 3) := by decide +kernel
theorem dX10_drop_22 : decode cX10_drop 22 = .ok (.ifCond .ne 5, 3) := by decide +kernel
theorem dX10_drop_25 : decode cX10_drop 25 = .ok (.iconst 0, 1) := by decide +kernel
theorem dX10_drop_26 : decode cX10_drop 26 = .ok (.ireturn, 1) := by decide +kernel
theorem dX10_drop_27 : decode cX10_drop 27 = .ok (.aload_n 0, 1) := by decide +kernel
theorem dX10_drop_28 : decode cX10_drop 28 = .ok (.getfield 35, 3) := by decide +kernel
theorem dX10_drop_31 : decode cX10_drop 31 = .ok (.iload_n 1, 1) := by decide +kernel
theorem dX10_drop_32 : decode cX10_drop 32 = .ok (.invokevirtual 255, 3) := by decide +kernel
theorem dX10_drop_35 : decode cX10_drop 35 = .ok (.iconst 1, 1) := by decide +kernel
theorem dX10_drop_36 : decode cX10_drop 36 = .ok (.ireturn, 1) := by decide +kernel
set_option maxRecDepth 20000 in
theorem ggX10_slotted_X8_isSlot : GoodIn wsX10_slotted wsX8_isSlot := goodIn_r _ [10, 11, 78, 79, 80] (by decide +kernel) (by decide +kernel)
set_option maxRecDepth 20000 in
theorem gX10_slotted_X8_isSlot : GoodIn wsX10_slotted (wsV RX10 252 RX8 yX8_isSlot wsX8_isSlot) := goodIn_app (goodIn_of _ (by decide +kernel)) ggX10_slotted_X8_isSlot
set_option maxRecDepth 20000 in
theorem ggX10_slotted_X4_wasteOf : GoodIn wsX10_slotted wsX4_wasteOf := goodIn_r _ [16, 17, 18, 19, 20, 15, 21, 22, 23, 24, 25, 26, 27, 81, 82, 83, 84, 85, 86, 87, 88] (by decide +kernel) (by decide +kernel)
set_option maxRecDepth 20000 in
theorem gX10_slotted_X4_wasteOf : GoodIn wsX10_slotted (wsV RX10 175 RX4 yX4_wasteOf wsX4_wasteOf) := goodIn_app (goodIn_of _ (by decide +kernel)) ggX10_slotted_X4_wasteOf
set_option maxRecDepth 20000 in
theorem ggX10_slotted_X10_movesTo : GoodIn wsX10_slotted wsX10_movesTo := goodIn_r _ [32, 33, 4, 1, 2, 34, 35, 36, 37, 38, 39, 40, 41, 42, 43, 44, 45, 46, 47, 48, 49, 50, 25, 26, 27, 51, 52, 53, 54, 63, 64, 65, 66, 67, 68, 69, 70, 71, 72, 73, 74, 75, 76, 77, 78, 79, 80, 89, 90, 81, 82, 83, 84, 85, 86, 87, 88] (by decide +kernel) (by decide +kernel)
set_option maxRecDepth 20000 in
theorem gX10_slotted_X10_movesTo : GoodIn wsX10_slotted (wsV RX10 265 RX10 yX10_movesTo wsX10_movesTo) := goodIn_app (goodIn_of _ (by decide +kernel)) ggX10_slotted_X10_movesTo
set_option maxRecDepth 20000 in
theorem ggX10_slotted_X0_pieces : GoodIn wsX10_slotted wsX0_pieces := goodIn_r _ [57, 58, 25, 26, 27] (by decide +kernel) (by decide +kernel)
set_option maxRecDepth 20000 in
theorem gX10_slotted_X0_pieces : GoodIn wsX10_slotted (va_wsS RX10 268 yX0_pieces wsX0_pieces) := goodIn_app (goodIn_of _ (by decide +kernel)) ggX10_slotted_X0_pieces
set_option maxRecDepth 20000 in
theorem ggX10_slotted_X10_within : GoodIn wsX10_slotted wsX10_within := goodIn_r _ [61] (by decide +kernel) (by decide +kernel)
set_option maxRecDepth 20000 in
theorem gX10_slotted_X10_within : GoodIn wsX10_slotted (va_wsS RX10 94 yX10_within wsX10_within) := goodIn_app (goodIn_of _ (by decide +kernel)) ggX10_slotted_X10_within
set_option maxRecDepth 20000 in
theorem ggX10_slotted_X0_ofWidth : GoodIn wsX10_slotted wsX0_ofWidth := goodIn_r _ [27] (by decide +kernel) (by decide +kernel)
set_option maxRecDepth 20000 in
theorem gX10_slotted_X0_ofWidth : GoodIn wsX10_slotted (va_wsS RX10 169 yX0_ofWidth wsX0_ofWidth) := goodIn_app (goodIn_of _ (by decide +kernel)) ggX10_slotted_X0_ofWidth
theorem dX10_slotted_0 : decode cX10_slotted 0 = .ok (.aload_n 0, 1) := by decide +kernel
theorem dX10_slotted_1 : decode cX10_slotted 1 = .ok (.getfield 35, 3) := by decide +kernel
theorem dX10_slotted_4 : decode cX10_slotted 4 = .ok (.iload_n 1, 1) := by decide +kernel
theorem dX10_slotted_5 : decode cX10_slotted 5 = .ok (.invokevirtual 252, 3) := by decide +kernel
theorem dX10_slotted_8 : decode cX10_slotted 8 = .ok (.ifCond .ne 5, 3) := by decide +kernel
theorem dX10_slotted_11 : decode cX10_slotted 11 = .ok (.iconst (-1), 1) := by decide +kernel
theorem dX10_slotted_12 : decode cX10_slotted 12 = .ok (.ireturn, 1) := by decide +kernel
theorem dX10_slotted_13 : decode cX10_slotted 13 = .ok (.aload_n 0, 1) := by decide +kernel
theorem dX10_slotted_14 : decode cX10_slotted 14 = .ok (.getfield 35, 3) := by decide +kernel
theorem dX10_slotted_17 : decode cX10_slotted 17 = .ok (.getfield 259, 3) := by decide +kernel
theorem dX10_slotted_20 : decode cX10_slotted 20 = .ok (.iload_n 1, 1) := by decide +kernel
theorem dX10_slotted_21 : decode cX10_slotted 21 = .ok (.iaload, 1) := by decide +kernel
theorem dX10_slotted_22 : decode cX10_slotted 22 = .ok (.istore_n 3, 1) := by decide +kernel
theorem dX10_slotted_23 : decode cX10_slotted 23 = .ok (.iload_n 2, 1) := by decide +kernel
theorem dX10_slotted_24 : decode cX10_slotted 24 = .ok (.tableswitch 62 0 3 #[32, 42, 51, 57], 32) := by decide +kernel
theorem dX10_slotted_56 : decode cX10_slotted 56 = .ok (.aload_n 0, 1) := by decide +kernel
theorem dX10_slotted_57 : decode cX10_slotted 57 = .ok (.getfield 35, 3) := by decide +kernel
theorem dX10_slotted_60 : decode cX10_slotted 60 = .ok (.getfield 262, 3) := by decide +kernel
theorem dX10_slotted_63 : decode cX10_slotted 63 = .ok (.iload_n 1, 1) := by decide +kernel
theorem dX10_slotted_64 : decode cX10_slotted 64 = .ok (.iaload, 1) := by decide +kernel
theorem dX10_slotted_65 : decode cX10_slotted 65 = .ok (.ireturn, 1) := by decide +kernel
theorem dX10_slotted_66 : decode cX10_slotted 66 = .ok (.aload_n 0, 1) := by decide +kernel
theorem dX10_slotted_67 : decode cX10_slotted 67 = .ok (.getfield 10, 3) := by decide +kernel
theorem dX10_slotted_70 : decode cX10_slotted 70 = .ok (.iload_n 3, 1) := by decide +kernel
theorem dX10_slotted_71 : decode cX10_slotted 71 = .ok (.invokevirtual 175, 3) := by decide +kernel
theorem dX10_slotted_74 : decode cX10_slotted 74 = .ok (.ireturn, 1) := by decide +kernel
theorem dX10_slotted_75 : decode cX10_slotted 75 = .ok (.aload_n 0, 1) := by decide +kernel
theorem dX10_slotted_76 : decode cX10_slotted 76 = .ok (.iload_n 1, 1) := by decide +kernel
theorem dX10_slotted_77 : decode cX10_slotted 77 = .ok (.invokevirtual 265, 3) := by decide +kernel
theorem dX10_slotted_80 : decode cX10_slotted 80 = .ok (.ireturn, 1) := by decide +kernel
theorem dX10_slotted_81 : decode cX10_slotted 81 = .ok (.iload_n 3, 1) := by decide +kernel
theorem dX10_slotted_82 : decode cX10_slotted 82 = .ok (.invokestatic 268, 3) := by decide +kernel
theorem dX10_slotted_85 : decode cX10_slotted 85 = .ok (.ireturn, 1) := by decide +kernel
theorem dX10_slotted_86 : decode cX10_slotted 86 = .ok (.iload_n 2, 1) := by decide +kernel
theorem dX10_slotted_87 : decode cX10_slotted 87 = .ok (.bipush 10, 2) := by decide +kernel
theorem dX10_slotted_89 : decode cX10_slotted 89 = .ok (.bipush 10, 2) := by decide +kernel
theorem dX10_slotted_91 : decode cX10_slotted 91 = .ok (.aload_n 0, 1) := by decide +kernel
theorem dX10_slotted_92 : decode cX10_slotted 92 = .ok (.getfield 10, 3) := by decide +kernel
theorem dX10_slotted_95 : decode cX10_slotted 95 = .ok (.getfield 118, 3) := by decide +kernel
theorem dX10_slotted_98 : decode cX10_slotted 98 = .ok (.iadd, 1) := by decide +kernel
theorem dX10_slotted_99 : decode cX10_slotted 99 = .ok (.iconst 1, 1) := by decide +kernel
theorem dX10_slotted_100 : decode cX10_slotted 100 = .ok (.isub, 1) := by decide +kernel
theorem dX10_slotted_101 : decode cX10_slotted 101 = .ok (.invokestatic 94, 3) := by decide +kernel
theorem dX10_slotted_104 : decode cX10_slotted 104 = .ok (.ifCond .eq 14, 3) := by decide +kernel
theorem dX10_slotted_107 : decode cX10_slotted 107 = .ok (.iload_n 3, 1) := by decide +kernel
theorem dX10_slotted_108 : decode cX10_slotted 108 = .ok (.iload_n 2, 1) := by decide +kernel
theorem dX10_slotted_109 : decode cX10_slotted 109 = .ok (.bipush 10, 2) := by decide +kernel
theorem dX10_slotted_111 : decode cX10_slotted 111 = .ok (.isub, 1) := by decide +kernel
theorem dX10_slotted_112 : decode cX10_slotted 112 = .ok (.invokestatic 169, 3) := by decide +kernel
theorem dX10_slotted_115 : decode cX10_slotted 115 = .ok (.goto 4, 3) := by decide +kernel
theorem dX10_slotted_118 : decode cX10_slotted 118 = .ok (.iconst (-1), 1) := by decide +kernel
theorem dX10_slotted_119 : decode cX10_slotted 119 = .ok (.ireturn, 1) := by decide +kernel
set_option maxRecDepth 20000 in
theorem ggX10_plan_X8_allRolls : GoodIn wsX10_plan wsX8_allRolls := goodIn_r _ [7, 8, 9, 107, 108, 109] (by decide +kernel) (by decide +kernel)
set_option maxRecDepth 20000 in
theorem gX10_plan_X8_allRolls : GoodIn wsX10_plan (wsV RX10 271 RX8 yX8_allRolls wsX8_allRolls) := goodIn_app (goodIn_of _ (by decide +kernel)) ggX10_plan_X8_allRolls
set_option maxRecDepth 20000 in
theorem ggX10_plan_X10_wasteOfAll : GoodIn wsX10_plan wsX10_wasteOfAll := goodIn_r _ [14, 1, 2, 15, 16, 17, 18, 19, 20, 21, 22, 23, 24, 25, 26, 27, 28, 29, 30, 31, 32, 33, 92, 93, 94, 95, 96, 97, 98, 99, 100, 101, 102, 103, 104, 105, 106, 107, 108, 109, 110, 111, 112, 113, 114, 115, 116, 117] (by decide +kernel) (by decide +kernel)
set_option maxRecDepth 20000 in
theorem gX10_plan_X10_wasteOfAll : GoodIn wsX10_plan (wsV RX10 274 RX10 yX10_wasteOfAll wsX10_wasteOfAll) := goodIn_app (goodIn_of _ (by decide +kernel)) ggX10_plan_X10_wasteOfAll
set_option maxRecDepth 20000 in
theorem ggX10_plan_X10_movesOfAll : GoodIn wsX10_plan wsX10_movesOfAll := goodIn_r _ [37, 1, 2, 38, 39, 40, 13, 41, 42, 16, 17, 43, 44, 45, 46, 47, 48, 49, 50, 51, 52, 53, 54, 55, 56, 57, 58, 59, 31, 32, 33, 60, 61, 62, 63, 92, 93, 94, 95, 96, 97, 98, 99, 100, 101, 102, 103, 104, 105, 106, 107, 108, 109, 118, 119, 110, 111, 112, 113, 114, 115, 116, 117] (by decide +kernel) (by decide +kernel)
set_option maxRecDepth 20000 in
theorem gX10_plan_X10_movesOfAll : GoodIn wsX10_plan (wsV RX10 277 RX10 yX10_movesOfAll wsX10_movesOfAll) := goodIn_app (goodIn_of _ (by decide +kernel)) ggX10_plan_X10_movesOfAll
set_option maxRecDepth 20000 in
theorem ggX10_plan_X10_piecesMissing : GoodIn wsX10_plan wsX10_piecesMissing := goodIn_r _ [67, 16, 68, 69, 1, 70, 71, 72, 73, 74, 75, 76, 77, 78, 79, 80, 81, 82, 83, 84, 6, 85, 8, 9, 86, 87, 31, 32, 33, 92, 93, 94, 95, 96, 97, 98, 99, 100, 101, 102, 103, 104, 105, 106, 110, 111, 112, 113, 114, 115, 116, 117, 120, 121, 122, 123, 124, 125, 107, 108, 109] (by decide +kernel) (by decide +kernel)
set_option maxRecDepth 20000 in
theorem gX10_plan_X10_piecesMissing : GoodIn wsX10_plan (wsV RX10 280 RX10 yX10_piecesMissing wsX10_piecesMissing) := goodIn_app (goodIn_of _ (by decide +kernel)) ggX10_plan_X10_piecesMissing
set_option maxRecDepth 20000 in
theorem ggX10_plan_X10_piecesBeyond : GoodIn wsX10_plan wsX10_piecesBeyond := goodIn_r _ [91, 16, 68, 1, 69, 70, 71, 72, 73, 82, 83, 84, 6, 85, 8, 9, 86, 87, 31, 32, 33, 74, 75, 76, 77, 78, 79, 80, 81, 92, 93, 94, 95, 96, 97, 98, 99, 100, 101, 102, 103, 104, 105, 106, 110, 111, 112, 113, 114, 115, 116, 117, 107, 108, 109, 120, 121, 122, 123, 124, 125] (by decide +kernel) (by decide +kernel)
set_option maxRecDepth 20000 in
theorem gX10_plan_X10_piecesBeyond : GoodIn wsX10_plan (wsV RX10 283 RX10 yX10_piecesBeyond wsX10_piecesBeyond) := goodIn_app (goodIn_of _ (by decide +kernel)) ggX10_plan_X10_piecesBeyond
theorem dX10_plan_0 : decode cX10_plan 0 = .ok (.iload_n 1, 1) := by decide +kernel
theorem dX10_plan_1 : decode cX10_plan 1 = .ok (.tableswitch 75 0 5 #[39, 47, 55, 60, 65, 70], 39) := by decide +kernel
theorem dX10_plan_40 : decode cX10_plan 40 = .ok (.aload_n 0, 1) := by decide +kernel
theorem dX10_plan_41 : decode cX10_plan 41 = .ok (.getfield 35, 3) := by decide +kernel
theorem dX10_plan_44 : decode cX10_plan 44 = .ok (.getfield 249, 3) := by decide +kernel
theorem dX10_plan_47 : decode cX10_plan 47 = .ok (.ireturn, 1) := by decide +kernel
theorem dX10_plan_48 : decode cX10_plan 48 = .ok (.aload_n 0, 1) := by decide +kernel
theorem dX10_plan_49 : decode cX10_plan 49 = .ok (.getfield 35, 3) := by decide +kernel
theorem dX10_plan_52 : decode cX10_plan 52 = .ok (.invokevirtual 271, 3) := by decide +kernel
theorem dX10_plan_55 : decode cX10_plan 55 = .ok (.ireturn, 1) := by decide +kernel
theorem dX10_plan_56 : decode cX10_plan 56 = .ok (.aload_n 0, 1) := by decide +kernel
theorem dX10_plan_57 : decode cX10_plan 57 = .ok (.invokevirtual 274, 3) := by decide +kernel
theorem dX10_plan_60 : decode cX10_plan 60 = .ok (.ireturn, 1) := by decide +kernel
theorem dX10_plan_61 : decode cX10_plan 61 = .ok (.aload_n 0, 1) := by decide +kernel
theorem dX10_plan_62 : decode cX10_plan 62 = .ok (.invokevirtual 277, 3) := by decide +kernel
theorem dX10_plan_65 : decode cX10_plan 65 = .ok (.ireturn, 1) := by decide +kernel
theorem dX10_plan_66 : decode cX10_plan 66 = .ok (.aload_n 0, 1) := by decide +kernel
theorem dX10_plan_67 : decode cX10_plan 67 = .ok (.invokevirtual 280, 3) := by decide +kernel
theorem dX10_plan_70 : decode cX10_plan 70 = .ok (.ireturn, 1) := by decide +kernel
theorem dX10_plan_71 : decode cX10_plan 71 = .ok (.aload_n 0, 1) := by decide +kernel
theorem dX10_plan_72 : decode cX10_plan 72 = .ok (.invokevirtual 283, 3) := by decide +kernel
theorem dX10_plan_75 : decode cX10_plan 75 = .ok (.ireturn, 1) := by decide +kernel
theorem dX10_plan_76 : decode cX10_plan 76 = .ok (.iconst (-1), 1) := by decide +kernel
theorem dX10_plan_77 : decode cX10_plan 77 = .ok (.ireturn, 1) := by decide +kernel
set_option maxRecDepth 20000 in
theorem ggX10_line_X3_start : GoodIn wsX10_line wsX3_start := goodIn_r _ [15, 16, 17, 18, 19, 20, 119, 120, 121, 122] (by decide +kernel) (by decide +kernel)
set_option maxRecDepth 20000 in
theorem gX10_line_X3_start : GoodIn wsX10_line (wsV RX10 286 RX3 yX3_start wsX3_start) := goodIn_app (goodIn_of _ (by decide +kernel)) ggX10_line_X3_start
set_option maxRecDepth 20000 in
theorem ggX10_line_X1_lay : GoodIn wsX10_line wsX1_lay := goodIn_r _ [25, 26, 27, 28, 29, 30, 31, 32, 24, 33, 34, 35, 36, 37, 38, 123, 124, 125, 126, 127, 128, 129, 130, 131, 132] (by decide +kernel) (by decide +kernel)
set_option maxRecDepth 20000 in
theorem gX10_line_X1_lay : GoodIn wsX10_line (wsV RX10 288 RX1 yX1_lay wsX1_lay) := goodIn_app (goodIn_of _ (by decide +kernel)) ggX10_line_X1_lay
set_option maxRecDepth 20000 in
theorem ggX10_line_X1_movesFrom : GoodIn wsX10_line wsX1_movesFrom := goodIn_r _ [42, 26, 34, 123, 124] (by decide +kernel) (by decide +kernel)
set_option maxRecDepth 20000 in
theorem gX10_line_X1_movesFrom : GoodIn wsX10_line (wsV RX10 292 RX1 yX1_movesFrom wsX1_movesFrom) := goodIn_app (goodIn_of _ (by decide +kernel)) ggX10_line_X1_movesFrom
set_option maxRecDepth 20000 in
theorem ggX10_line_X3_setFromLatest : GoodIn wsX10_line wsX3_setFromLatest := goodIn_r _ [46, 47, 119, 120, 121, 122] (by decide +kernel) (by decide +kernel)
set_option maxRecDepth 20000 in
theorem gX10_line_X3_setFromLatest : GoodIn wsX10_line (wsV RX10 296 RX3 yX3_setFromLatest wsX3_setFromLatest) := goodIn_app (goodIn_of _ (by decide +kernel)) ggX10_line_X3_setFromLatest
set_option maxRecDepth 20000 in
theorem ggX10_line_X3_setStep : GoodIn wsX10_line wsX3_setStep := goodIn_r _ [51, 47, 119, 120, 121, 122] (by decide +kernel) (by decide +kernel)
set_option maxRecDepth 20000 in
theorem gX10_line_X3_setStep : GoodIn wsX10_line (wsV RX10 299 RX3 yX3_setStep wsX3_setStep) := goodIn_app (goodIn_of _ (by decide +kernel)) ggX10_line_X3_setStep
set_option maxRecDepth 20000 in
theorem ggX10_line_X3_solve : GoodIn wsX10_line wsX3_solve := goodIn_r _ [55, 20, 56, 57, 58, 14, 59, 60, 61, 62, 63, 16, 17, 18, 19, 64, 65, 66, 67, 47, 68, 69, 70, 71, 72, 73, 74, 75, 76, 119, 120, 121, 122] (by decide +kernel) (by decide +kernel)
set_option maxRecDepth 20000 in
theorem gX10_line_X3_solve : GoodIn wsX10_line (wsV RX10 302 RX3 yX3_solve wsX3_solve) := goodIn_app (goodIn_of _ (by decide +kernel)) ggX10_line_X3_solve
set_option maxRecDepth 20000 in
theorem ggX10_line_X8_copyFrom : GoodIn wsX10_line wsX8_copyFrom := goodIn_r _ [81, 82, 83, 84, 116, 117, 118] (by decide +kernel) (by decide +kernel)
set_option maxRecDepth 20000 in
theorem gX10_line_X8_copyFrom : GoodIn wsX10_line (wsV RX10 224 RX8 yX8_copyFrom wsX8_copyFrom) := goodIn_app (goodIn_of _ (by decide +kernel)) ggX10_line_X8_copyFrom
set_option maxRecDepth 20000 in
theorem ggX10_line_X8_clear : GoodIn wsX10_line wsX8_clear := goodIn_r _ [88, 82, 116, 117, 118] (by decide +kernel) (by decide +kernel)
set_option maxRecDepth 20000 in
theorem gX10_line_X8_clear : GoodIn wsX10_line (wsV RX10 209 RX8 yX8_clear wsX8_clear) := goodIn_app (goodIn_of _ (by decide +kernel)) ggX10_line_X8_clear
set_option maxRecDepth 20000 in
theorem ggX10_line_X3_slotAt : GoodIn wsX10_line wsX3_slotAt := goodIn_r _ [92, 72, 119, 120, 121, 122] (by decide +kernel) (by decide +kernel)
set_option maxRecDepth 20000 in
theorem gX10_line_X3_slotAt : GoodIn wsX10_line (wsV RX10 304 RX3 yX3_slotAt wsX3_slotAt) := goodIn_app (goodIn_of _ (by decide +kernel)) ggX10_line_X3_slotAt
set_option maxRecDepth 20000 in
theorem ggX10_line_X8_add : GoodIn wsX10_line wsX8_add := goodIn_r _ [96, 83, 82, 84, 97, 98, 99, 80, 100, 116, 117, 118] (by decide +kernel) (by decide +kernel)
set_option maxRecDepth 20000 in
theorem gX10_line_X8_add : GoodIn wsX10_line (wsV RX10 245 RX8 yX8_add wsX8_add) := goodIn_app (goodIn_of _ (by decide +kernel)) ggX10_line_X8_add
theorem dX10_line_0 : decode cX10_line 0 = .ok (.aload_n 0, 1) := by decide +kernel
theorem dX10_line_1 : decode cX10_line 1 = .ok (.getfield 35, 3) := by decide +kernel
theorem dX10_line_4 : decode cX10_line 4 = .ok (.getfield 249, 3) := by decide +kernel
theorem dX10_line_7 : decode cX10_line 7 = .ok (.bipush 8, 2) := by decide +kernel
theorem dX10_line_9 : decode cX10_line 9 = .ok (.if_icmp .le 5, 3) := by decide +kernel
theorem dX10_line_12 : decode cX10_line 12 = .ok (.iconst (-1), 1) := by decide +kernel
theorem dX10_line_13 : decode cX10_line 13 = .ok (.ireturn, 1) := by decide +kernel
theorem dX10_line_14 : decode cX10_line 14 = .ok (.aload_n 0, 1) := by decide +kernel
theorem dX10_line_15 : decode cX10_line 15 = .ok (.getfield 61, 3) := by decide +kernel
theorem dX10_line_18 : decode cX10_line 18 = .ok (.aload_n 0, 1) := by decide +kernel
theorem dX10_line_19 : decode cX10_line 19 = .ok (.getfield 35, 3) := by decide +kernel
theorem dX10_line_22 : decode cX10_line 22 = .ok (.getfield 249, 3) := by decide +kernel
theorem dX10_line_25 : decode cX10_line 25 = .ok (.invokevirtual 286, 3) := by decide +kernel
theorem dX10_line_28 : decode cX10_line 28 = .ok (.iconst 0, 1) := by decide +kernel
theorem dX10_line_29 : decode cX10_line 29 = .ok (.istore_n 1, 1) := by decide +kernel
theorem dX10_line_30 : decode cX10_line 30 = .ok (.iload_n 1, 1) := by decide +kernel
theorem dX10_line_31 : decode cX10_line 31 = .ok (.aload_n 0, 1) := by decide +kernel
theorem dX10_line_32 : decode cX10_line 32 = .ok (.getfield 35, 3) := by decide +kernel
theorem dX10_line_35 : decode cX10_line 35 = .ok (.getfield 249, 3) := by decide +kernel
theorem dX10_line_38 : decode cX10_line 38 = .ok (.if_icmp .ge 107, 3) := by decide +kernel
theorem dX10_line_41 : decode cX10_line 41 = .ok (.aload_n 0, 1) := by decide +kernel
theorem dX10_line_42 : decode cX10_line 42 = .ok (.getfield 55, 3) := by decide +kernel
theorem dX10_line_45 : decode cX10_line 45 = .ok (.aload_n 0, 1) := by decide +kernel
theorem dX10_line_46 : decode cX10_line 46 = .ok (.getfield 10, 3) := by decide +kernel
theorem dX10_line_49 : decode cX10_line 49 = .ok (.aload_n 0, 1) := by decide +kernel
theorem dX10_line_50 : decode cX10_line 50 = .ok (.getfield 35, 3) := by decide +kernel
theorem dX10_line_53 : decode cX10_line 53 = .ok (.getfield 259, 3) := by decide +kernel
theorem dX10_line_56 : decode cX10_line 56 = .ok (.iload_n 1, 1) := by decide +kernel
theorem dX10_line_57 : decode cX10_line 57 = .ok (.iaload, 1) := by decide +kernel
theorem dX10_line_58 : decode cX10_line 58 = .ok (.invokevirtual 288, 3) := by decide +kernel
theorem dX10_line_61 : decode cX10_line 61 = .ok (.aload_n 0, 1) := by decide +kernel
theorem dX10_line_62 : decode cX10_line 62 = .ok (.getfield 61, 3) := by decide +kernel
theorem dX10_line_65 : decode cX10_line 65 = .ok (.iload_n 1, 1) := by decide +kernel
theorem dX10_line_66 : decode cX10_line 66 = .ok (.aload_n 0, 1) := by decide +kernel
theorem dX10_line_67 : decode cX10_line 67 = .ok (.getfield 55, 3) := by decide +kernel
theorem dX10_line_70 : decode cX10_line 70 = .ok (.aload_n 0, 1) := by decide +kernel
theorem dX10_line_71 : decode cX10_line 71 = .ok (.getfield 48, 3) := by decide +kernel
theorem dX10_line_74 : decode cX10_line 74 = .ok (.invokevirtual 292, 3) := by decide +kernel
theorem dX10_line_77 : decode cX10_line 77 = .ok (.invokevirtual 296, 3) := by decide +kernel
theorem dX10_line_80 : decode cX10_line 80 = .ok (.iconst 0, 1) := by decide +kernel
theorem dX10_line_81 : decode cX10_line 81 = .ok (.istore_n 2, 1) := by decide +kernel
theorem dX10_line_82 : decode cX10_line 82 = .ok (.iload_n 2, 1) := by decide +kernel
theorem dX10_line_83 : decode cX10_line 83 = .ok (.aload_n 0, 1) := by decide +kernel
theorem dX10_line_84 : decode cX10_line 84 = .ok (.getfield 35, 3) := by decide +kernel
theorem dX10_line_87 : decode cX10_line 87 = .ok (.getfield 249, 3) := by decide +kernel
theorem dX10_line_90 : decode cX10_line 90 = .ok (.if_icmp .ge 49, 3) := by decide +kernel
theorem dX10_line_93 : decode cX10_line 93 = .ok (.aload_n 0, 1) := by decide +kernel
theorem dX10_line_94 : decode cX10_line 94 = .ok (.getfield 52, 3) := by decide +kernel
theorem dX10_line_97 : decode cX10_line 97 = .ok (.aload_n 0, 1) := by decide +kernel
theorem dX10_line_98 : decode cX10_line 98 = .ok (.getfield 10, 3) := by decide +kernel
theorem dX10_line_101 : decode cX10_line 101 = .ok (.aload_n 0, 1) := by decide +kernel
theorem dX10_line_102 : decode cX10_line 102 = .ok (.getfield 35, 3) := by decide +kernel
theorem dX10_line_105 : decode cX10_line 105 = .ok (.getfield 259, 3) := by decide +kernel
theorem dX10_line_108 : decode cX10_line 108 = .ok (.iload_n 2, 1) := by decide +kernel
theorem dX10_line_109 : decode cX10_line 109 = .ok (.iaload, 1) := by decide +kernel
theorem dX10_line_110 : decode cX10_line 110 = .ok (.invokevirtual 288, 3) := by decide +kernel
theorem dX10_line_113 : decode cX10_line 113 = .ok (.aload_n 0, 1) := by decide +kernel
theorem dX10_line_114 : decode cX10_line 114 = .ok (.getfield 61, 3) := by decide +kernel
theorem dX10_line_117 : decode cX10_line 117 = .ok (.iload_n 2, 1) := by decide +kernel
theorem dX10_line_118 : decode cX10_line 118 = .ok (.iload_n 1, 1) := by decide +kernel
theorem dX10_line_119 : decode cX10_line 119 = .ok (.aload_n 0, 1) := by decide +kernel
theorem dX10_line_120 : decode cX10_line 120 = .ok (.getfield 55, 3) := by decide +kernel
theorem dX10_line_123 : decode cX10_line 123 = .ok (.aload_n 0, 1) := by decide +kernel
theorem dX10_line_124 : decode cX10_line 124 = .ok (.getfield 52, 3) := by decide +kernel
theorem dX10_line_127 : decode cX10_line 127 = .ok (.invokevirtual 292, 3) := by decide +kernel
theorem dX10_line_130 : decode cX10_line 130 = .ok (.invokevirtual 299, 3) := by decide +kernel
theorem dX10_line_133 : decode cX10_line 133 = .ok (.iinc 2 1, 3) := by decide +kernel
theorem dX10_line_136 : decode cX10_line 136 = .ok (.goto (-54), 3) := by decide +kernel
theorem dX10_line_139 : decode cX10_line 139 = .ok (.iinc 1 1, 3) := by decide +kernel
theorem dX10_line_142 : decode cX10_line 142 = .ok (.goto (-112), 3) := by decide +kernel
theorem dX10_line_145 : decode cX10_line 145 = .ok (.aload_n 0, 1) := by decide +kernel
theorem dX10_line_146 : decode cX10_line 146 = .ok (.getfield 61, 3) := by decide +kernel
theorem dX10_line_149 : decode cX10_line 149 = .ok (.invokevirtual 302, 3) := by decide +kernel
theorem dX10_line_152 : decode cX10_line 152 = .ok (.istore_n 1, 1) := by decide +kernel
theorem dX10_line_153 : decode cX10_line 153 = .ok (.aload_n 0, 1) := by decide +kernel
theorem dX10_line_154 : decode cX10_line 154 = .ok (.getfield 42, 3) := by decide +kernel
theorem dX10_line_157 : decode cX10_line 157 = .ok (.aload_n 0, 1) := by decide +kernel
theorem dX10_line_158 : decode cX10_line 158 = .ok (.getfield 35, 3) := by decide +kernel
theorem dX10_line_161 : decode cX10_line 161 = .ok (.invokevirtual 224, 3) := by decide +kernel
theorem dX10_line_164 : decode cX10_line 164 = .ok (.aload_n 0, 1) := by decide +kernel
theorem dX10_line_165 : decode cX10_line 165 = .ok (.getfield 35, 3) := by decide +kernel
theorem dX10_line_168 : decode cX10_line 168 = .ok (.invokevirtual 209, 3) := by decide +kernel
theorem dX10_line_171 : decode cX10_line 171 = .ok (.iconst 0, 1) := by decide +kernel
theorem dX10_line_172 : decode cX10_line 172 = .ok (.istore_n 2, 1) := by decide +kernel
theorem dX10_line_173 : decode cX10_line 173 = .ok (.iload_n 2, 1) := by decide +kernel
theorem dX10_line_174 : decode cX10_line 174 = .ok (.aload_n 0, 1) := by decide +kernel
theorem dX10_line_175 : decode cX10_line 175 = .ok (.getfield 42, 3) := by decide +kernel
theorem dX10_line_178 : decode cX10_line 178 = .ok (.getfield 249, 3) := by decide +kernel
theorem dX10_line_181 : decode cX10_line 181 = .ok (.if_icmp .ge 43, 3) := by decide +kernel
theorem dX10_line_184 : decode cX10_line 184 = .ok (.aload_n 0, 1) := by decide +kernel
theorem dX10_line_185 : decode cX10_line 185 = .ok (.getfield 61, 3) := by decide +kernel
theorem dX10_line_188 : decode cX10_line 188 = .ok (.iload_n 2, 1) := by decide +kernel
theorem dX10_line_189 : decode cX10_line 189 = .ok (.invokevirtual 304, 3) := by decide +kernel
theorem dX10_line_192 : decode cX10_line 192 = .ok (.istore_n 3, 1) := by decide +kernel
theorem dX10_line_193 : decode cX10_line 193 = .ok (.aload_n 0, 1) := by decide +kernel
theorem dX10_line_194 : decode cX10_line 194 = .ok (.getfield 35, 3) := by decide +kernel
theorem dX10_line_197 : decode cX10_line 197 = .ok (.aload_n 0, 1) := by decide +kernel
theorem dX10_line_198 : decode cX10_line 198 = .ok (.getfield 42, 3) := by decide +kernel
theorem dX10_line_201 : decode cX10_line 201 = .ok (.getfield 259, 3) := by decide +kernel
theorem dX10_line_204 : decode cX10_line 204 = .ok (.iload_n 3, 1) := by decide +kernel
theorem dX10_line_205 : decode cX10_line 205 = .ok (.iaload, 1) := by decide +kernel
theorem dX10_line_206 : decode cX10_line 206 = .ok (.aload_n 0, 1) := by decide +kernel
theorem dX10_line_207 : decode cX10_line 207 = .ok (.getfield 42, 3) := by decide +kernel
theorem dX10_line_210 : decode cX10_line 210 = .ok (.getfield 262, 3) := by decide +kernel
theorem dX10_line_213 : decode cX10_line 213 = .ok (.iload_n 3, 1) := by decide +kernel
theorem dX10_line_214 : decode cX10_line 214 = .ok (.iaload, 1) := by decide +kernel
theorem dX10_line_215 : decode cX10_line 215 = .ok (.invokevirtual 245, 3) := by decide +kernel
theorem dX10_line_218 : decode cX10_line 218 = .ok (.iinc 2 1, 3) := by decide +kernel
theorem dX10_line_221 : decode cX10_line 221 = .ok (.goto (-48), 3) := by decide +kernel
theorem dX10_line_224 : decode cX10_line 224 = .ok (.iload_n 1, 1) := by decide +kernel
theorem dX10_line_225 : decode cX10_line 225 = .ok (.ireturn, 1) := by decide +kernel
set_option maxRecDepth 20000 in
theorem ggX10_keep_X8_copyFrom : GoodIn wsX10_keep wsX8_copyFrom := goodIn_r _ [8, 9, 10, 11, 27, 28, 29] (by decide +kernel) (by decide +kernel)
set_option maxRecDepth 20000 in
theorem gX10_keep_X8_copyFrom : GoodIn wsX10_keep (wsV RX10 224 RX8 yX8_copyFrom wsX8_copyFrom) := goodIn_app (goodIn_of _ (by decide +kernel)) ggX10_keep_X8_copyFrom
theorem dX10_keep_0 : decode cX10_keep 0 = .ok (.aload_n 0, 1) := by decide +kernel
theorem dX10_keep_1 : decode cX10_keep 1 = .ok (.getfield 39, 3) := by decide +kernel
theorem dX10_keep_4 : decode cX10_keep 4 = .ok (.aload_n 0, 1) := by decide +kernel
theorem dX10_keep_5 : decode cX10_keep 5 = .ok (.getfield 35, 3) := by decide +kernel
theorem dX10_keep_8 : decode cX10_keep 8 = .ok (.invokevirtual 224, 3) := by decide +kernel
theorem dX10_keep_11 : decode cX10_keep 11 = .ok (.aload_n 0, 1) := by decide +kernel
theorem dX10_keep_12 : decode cX10_keep 12 = .ok (.iconst 1, 1) := by decide +kernel
theorem dX10_keep_13 : decode cX10_keep 13 = .ok (.putfield 86, 3) := by decide +kernel
theorem dX10_keep_16 : decode cX10_keep 16 = .ok (.return_, 1) := by decide +kernel
set_option maxRecDepth 20000 in
theorem ggX10_undo_X8_copyFrom : GoodIn wsX10_undo wsX8_copyFrom := goodIn_r _ [8, 9, 10, 11, 27, 28, 29] (by decide +kernel) (by decide +kernel)
set_option maxRecDepth 20000 in
theorem gX10_undo_X8_copyFrom : GoodIn wsX10_undo (wsV RX10 224 RX8 yX8_copyFrom wsX8_copyFrom) := goodIn_app (goodIn_of _ (by decide +kernel)) ggX10_undo_X8_copyFrom
theorem dX10_undo_0 : decode cX10_undo 0 = .ok (.aload_n 0, 1) := by decide +kernel
theorem dX10_undo_1 : decode cX10_undo 1 = .ok (.getfield 86, 3) := by decide +kernel
theorem dX10_undo_4 : decode cX10_undo 4 = .ok (.ifCond .ne 5, 3) := by decide +kernel
theorem dX10_undo_7 : decode cX10_undo 7 = .ok (.iconst 0, 1) := by decide +kernel
theorem dX10_undo_8 : decode cX10_undo 8 = .ok (.ireturn, 1) := by decide +kernel
theorem dX10_undo_9 : decode cX10_undo 9 = .ok (.aload_n 0, 1) := by decide +kernel
theorem dX10_undo_10 : decode cX10_undo 10 = .ok (.getfield 35, 3) := by decide +kernel
theorem dX10_undo_13 : decode cX10_undo 13 = .ok (.aload_n 0, 1) := by decide +kernel
theorem dX10_undo_14 : decode cX10_undo 14 = .ok (.getfield 39, 3) := by decide +kernel
theorem dX10_undo_17 : decode cX10_undo 17 = .ok (.invokevirtual 224, 3) := by decide +kernel
theorem dX10_undo_20 : decode cX10_undo 20 = .ok (.iconst 1, 1) := by decide +kernel
theorem dX10_undo_21 : decode cX10_undo 21 = .ok (.ireturn, 1) := by decide +kernel
set_option maxRecDepth 20000 in
theorem ggX10_lot_X10_within : GoodIn wsX10_lot wsX10_within := goodIn_r _ [7] (by decide +kernel) (by decide +kernel)
set_option maxRecDepth 20000 in
theorem gX10_lot_X10_within : GoodIn wsX10_lot (va_wsS RX10 94 yX10_within wsX10_within) := goodIn_app (goodIn_of _ (by decide +kernel)) ggX10_lot_X10_within
set_option maxRecDepth 20000 in
theorem ggX10_lot_X9_isFull : GoodIn wsX10_lot wsX9_isFull := goodIn_r _ [12, 13, 37, 38, 39, 40] (by decide +kernel) (by decide +kernel)
set_option maxRecDepth 20000 in
theorem gX10_lot_X9_isFull : GoodIn wsX10_lot (wsV RX10 308 RX9 yX9_isFull wsX9_isFull) := goodIn_app (goodIn_of _ (by decide +kernel)) ggX10_lot_X9_isFull
set_option maxRecDepth 20000 in
theorem ggX10_lot_X9_add : GoodIn wsX10_lot wsX9_add := goodIn_r _ [17, 18, 13, 19, 20, 21, 9, 10, 11, 12, 37, 38, 39, 40] (by decide +kernel) (by decide +kernel)
set_option maxRecDepth 20000 in
theorem gX10_lot_X9_add : GoodIn wsX10_lot (wsV RX10 309 RX9 yX9_add wsX9_add) := goodIn_app (goodIn_of _ (by decide +kernel)) ggX10_lot_X9_add
theorem dX10_lot_0 : decode cX10_lot 0 = .ok (.iload_n 1, 1) := by decide +kernel
theorem dX10_lot_1 : decode cX10_lot 1 = .ok (.iconst 1, 1) := by decide +kernel
theorem dX10_lot_2 : decode cX10_lot 2 = .ok (.ldc_w 307, 3) := by decide +kernel
theorem dX10_lot_5 : decode cX10_lot 5 = .ok (.invokestatic 94, 3) := by decide +kernel
theorem dX10_lot_8 : decode cX10_lot 8 = .ok (.ifCond .eq 24, 3) := by decide +kernel
theorem dX10_lot_11 : decode cX10_lot 11 = .ok (.iload_n 2, 1) := by decide +kernel
theorem dX10_lot_12 : decode cX10_lot 12 = .ok (.iconst 0, 1) := by decide +kernel
theorem dX10_lot_13 : decode cX10_lot 13 = .ok (.sipush 1000, 3) := by decide +kernel
theorem dX10_lot_16 : decode cX10_lot 16 = .ok (.invokestatic 94, 3) := by decide +kernel
theorem dX10_lot_19 : decode cX10_lot 19 = .ok (.ifCond .eq 13, 3) := by decide +kernel
theorem dX10_lot_22 : decode cX10_lot 22 = .ok (.aload_n 0, 1) := by decide +kernel
theorem dX10_lot_23 : decode cX10_lot 23 = .ok (.getfield 75, 3) := by decide +kernel
theorem dX10_lot_26 : decode cX10_lot 26 = .ok (.invokevirtual 308, 3) := by decide +kernel
theorem dX10_lot_29 : decode cX10_lot 29 = .ok (.ifCond .eq 5, 3) := by decide +kernel
theorem dX10_lot_32 : decode cX10_lot 32 = .ok (.iconst (-1), 1) := by decide +kernel
theorem dX10_lot_33 : decode cX10_lot 33 = .ok (.ireturn, 1) := by decide +kernel
theorem dX10_lot_34 : decode cX10_lot 34 = .ok (.aload_n 0, 1) := by decide +kernel
theorem dX10_lot_35 : decode cX10_lot 35 = .ok (.getfield 75, 3) := by decide +kernel
theorem dX10_lot_38 : decode cX10_lot 38 = .ok (.iload_n 1, 1) := by decide +kernel
theorem dX10_lot_39 : decode cX10_lot 39 = .ok (.iload_n 2, 1) := by decide +kernel
theorem dX10_lot_40 : decode cX10_lot 40 = .ok (.iload_n 3, 1) := by decide +kernel
theorem dX10_lot_41 : decode cX10_lot 41 = .ok (.invokevirtual 309, 3) := by decide +kernel
theorem dX10_lot_44 : decode cX10_lot 44 = .ok (.aload_n 0, 1) := by decide +kernel
theorem dX10_lot_45 : decode cX10_lot 45 = .ok (.getfield 75, 3) := by decide +kernel
theorem dX10_lot_48 : decode cX10_lot 48 = .ok (.getfield 312, 3) := by decide +kernel
theorem dX10_lot_51 : decode cX10_lot 51 = .ok (.iconst 1, 1) := by decide +kernel
theorem dX10_lot_52 : decode cX10_lot 52 = .ok (.isub, 1) := by decide +kernel
theorem dX10_lot_53 : decode cX10_lot 53 = .ok (.ireturn, 1) := by decide +kernel
set_option maxRecDepth 20000 in
theorem ggX10_lotted_X9_isLot : GoodIn wsX10_lotted wsX9_isLot := goodIn_r _ [9, 10, 26, 27, 28, 29] (by decide +kernel) (by decide +kernel)
set_option maxRecDepth 20000 in
theorem gX10_lotted_X9_isLot : GoodIn wsX10_lotted (wsV RX10 313 RX9 yX9_isLot wsX9_isLot) := goodIn_app (goodIn_of _ (by decide +kernel)) ggX10_lotted_X9_isLot
theorem dX10_lotted_0 : decode cX10_lotted 0 = .ok (.aload_n 0, 1) := by decide +kernel
theorem dX10_lotted_1 : decode cX10_lotted 1 = .ok (.getfield 75, 3) := by decide +kernel
theorem dX10_lotted_4 : decode cX10_lotted 4 = .ok (.iload_n 1, 1) := by decide +kernel
theorem dX10_lotted_5 : decode cX10_lotted 5 = .ok (.invokevirtual 313, 3) := by decide +kernel
theorem dX10_lotted_8 : decode cX10_lotted 8 = .ok (.ifCond .ne 5, 3) := by decide +kernel
theorem dX10_lotted_11 : decode cX10_lotted 11 = .ok (.iconst (-1), 1) := by decide +kernel
theorem dX10_lotted_12 : decode cX10_lotted 12 = .ok (.ireturn, 1) := by decide +kernel
theorem dX10_lotted_13 : decode cX10_lotted 13 = .ok (.iload_n 2, 1) := by decide +kernel
theorem dX10_lotted_14 : decode cX10_lotted 14 = .ok (.tableswitch 64 0 2 #[26, 36, 46], 26) := by decide +kernel
theorem dX10_lotted_40 : decode cX10_lotted 40 = .ok (.aload_n 0, 1) := by decide +kernel
theorem dX10_lotted_41 : decode cX10_lotted 41 = .ok (.getfield 75, 3) := by decide +kernel
theorem dX10_lotted_44 : decode cX10_lotted 44 = .ok (.getfield 316, 3) := by decide +kernel
theorem dX10_lotted_47 : decode cX10_lotted 47 = .ok (.iload_n 1, 1) := by decide +kernel
theorem dX10_lotted_48 : decode cX10_lotted 48 = .ok (.iaload, 1) := by decide +kernel
theorem dX10_lotted_49 : decode cX10_lotted 49 = .ok (.ireturn, 1) := by decide +kernel
theorem dX10_lotted_50 : decode cX10_lotted 50 = .ok (.aload_n 0, 1) := by decide +kernel
theorem dX10_lotted_51 : decode cX10_lotted 51 = .ok (.getfield 75, 3) := by decide +kernel
theorem dX10_lotted_54 : decode cX10_lotted 54 = .ok (.getfield 319, 3) := by decide +kernel
theorem dX10_lotted_57 : decode cX10_lotted 57 = .ok (.iload_n 1, 1) := by decide +kernel
theorem dX10_lotted_58 : decode cX10_lotted 58 = .ok (.iaload, 1) := by decide +kernel
theorem dX10_lotted_59 : decode cX10_lotted 59 = .ok (.ireturn, 1) := by decide +kernel
theorem dX10_lotted_60 : decode cX10_lotted 60 = .ok (.aload_n 0, 1) := by decide +kernel
theorem dX10_lotted_61 : decode cX10_lotted 61 = .ok (.getfield 75, 3) := by decide +kernel
theorem dX10_lotted_64 : decode cX10_lotted 64 = .ok (.getfield 320, 3) := by decide +kernel
theorem dX10_lotted_67 : decode cX10_lotted 67 = .ok (.iload_n 1, 1) := by decide +kernel
theorem dX10_lotted_68 : decode cX10_lotted 68 = .ok (.baload, 1) := by decide +kernel
theorem dX10_lotted_69 : decode cX10_lotted 69 = .ok (.ifCond .eq 7, 3) := by decide +kernel
theorem dX10_lotted_72 : decode cX10_lotted 72 = .ok (.iconst 1, 1) := by decide +kernel
theorem dX10_lotted_73 : decode cX10_lotted 73 = .ok (.goto 4, 3) := by decide +kernel
theorem dX10_lotted_76 : decode cX10_lotted 76 = .ok (.iconst 0, 1) := by decide +kernel
theorem dX10_lotted_77 : decode cX10_lotted 77 = .ok (.ireturn, 1) := by decide +kernel
theorem dX10_lotted_78 : decode cX10_lotted 78 = .ok (.iconst (-1), 1) := by decide +kernel
theorem dX10_lotted_79 : decode cX10_lotted 79 = .ok (.ireturn, 1) := by decide +kernel
set_option maxRecDepth 20000 in
theorem ggX10_cut_X10_refusalOfCut : GoodIn wsX10_cut wsX10_refusalOfCut := goodIn_r _ [22, 1, 3, 23, 4, 24, 9, 2, 25, 26, 27, 28, 29, 30, 31, 32, 33, 34, 35, 36, 37, 38, 21, 39, 40, 41, 42, 43, 44, 45, 46, 47, 48, 49, 50, 51, 52, 53, 54, 55, 56, 57, 58, 59, 60, 61, 62, 63, 64, 65, 130, 131, 132, 133, 134, 135, 136, 137, 138, 139, 140, 141, 142, 143, 144, 148, 149, 150, 151, 145, 146, 147, 158, 159, 160, 161, 162, 163, 164, 165] (by decide +kernel) (by decide +kernel)
set_option maxRecDepth 20000 in
theorem gX10_cut_X10_refusalOfCut : GoodIn wsX10_cut (wsV RX10 324 RX10 yX10_refusalOfCut wsX10_refusalOfCut) := goodIn_app (goodIn_of _ (by decide +kernel)) ggX10_cut_X10_refusalOfCut
set_option maxRecDepth 20000 in
theorem ggX10_cut_X10_quotient : GoodIn wsX10_cut wsX10_quotient := goodIn_r _ [68] (by decide +kernel) (by decide +kernel)
set_option maxRecDepth 20000 in
theorem gX10_cut_X10_quotient : GoodIn wsX10_cut (va_wsS RX10 203 yX10_quotient wsX10_quotient) := goodIn_app (goodIn_of _ (by decide +kernel)) ggX10_cut_X10_quotient
set_option maxRecDepth 20000 in
theorem ggX10_cut_X9_takeRoll : GoodIn wsX10_cut wsX9_takeRoll := goodIn_r _ [72, 73, 74, 75, 76, 77, 78, 34, 79, 36, 80, 81, 82, 83, 148, 149, 150, 151] (by decide +kernel) (by decide +kernel)
set_option maxRecDepth 20000 in
theorem gX10_cut_X9_takeRoll : GoodIn wsX10_cut (wsV RX10 328 RX9 yX9_takeRoll wsX9_takeRoll) := goodIn_app (goodIn_of _ (by decide +kernel)) ggX10_cut_X9_takeRoll
set_option maxRecDepth 20000 in
theorem ggX10_cut_X6_addDone : GoodIn wsX10_cut wsX6_addDone := goodIn_r _ [88, 89, 90, 91, 92, 63, 64, 65, 166, 167, 168, 169, 170, 171, 158, 159, 160, 161, 162, 163, 164, 165] (by decide +kernel) (by decide +kernel)
set_option maxRecDepth 20000 in
theorem gX10_cut_X6_addDone : GoodIn wsX10_cut (wsV RX10 331 RX6 yX6_addDone wsX6_addDone) := goodIn_app (goodIn_of _ (by decide +kernel)) ggX10_cut_X6_addDone
set_option maxRecDepth 20000 in
theorem ggX10_cut_X4_spanOf : GoodIn wsX10_cut wsX4_spanOf := goodIn_r _ [96, 60, 61, 62, 63, 64, 65, 158, 159, 160, 161, 162, 163, 164, 165] (by decide +kernel) (by decide +kernel)
set_option maxRecDepth 20000 in
theorem gX10_cut_X4_spanOf : GoodIn wsX10_cut (wsV RX10 341 RX4 yX4_spanOf wsX4_spanOf) := goodIn_app (goodIn_of _ (by decide +kernel)) ggX10_cut_X4_spanOf
set_option maxRecDepth 20000 in
theorem ggX10_cut_X1_lay : GoodIn wsX10_cut wsX1_lay := goodIn_r _ [101, 102, 103, 104, 105, 106, 107, 108, 100, 109, 110, 111, 63, 64, 65, 172, 173, 158, 159, 160, 161, 162, 163, 164, 165] (by decide +kernel) (by decide +kernel)
set_option maxRecDepth 20000 in
theorem gX10_cut_X1_lay : GoodIn wsX10_cut (wsV RX10 288 RX1 yX1_lay wsX1_lay) := goodIn_app (goodIn_of _ (by decide +kernel)) ggX10_cut_X1_lay
set_option maxRecDepth 20000 in
theorem ggX10_cut_X1_movesFrom : GoodIn wsX10_cut wsX1_movesFrom := goodIn_r _ [115, 102, 110, 172, 173] (by decide +kernel) (by decide +kernel)
set_option maxRecDepth 20000 in
theorem gX10_cut_X1_movesFrom : GoodIn wsX10_cut (wsV RX10 292 RX1 yX1_movesFrom wsX1_movesFrom) := goodIn_app (goodIn_of _ (by decide +kernel)) ggX10_cut_X1_movesFrom
set_option maxRecDepth 20000 in
theorem ggX10_cut_X1_copyFrom : GoodIn wsX10_cut wsX1_copyFrom := goodIn_r _ [119, 102, 110, 172, 173] (by decide +kernel) (by decide +kernel)
set_option maxRecDepth 20000 in
theorem gX10_cut_X1_copyFrom : GoodIn wsX10_cut (wsV RX10 355 RX1 yX1_copyFrom wsX1_copyFrom) := goodIn_app (goodIn_of _ (by decide +kernel)) ggX10_cut_X1_copyFrom
set_option maxRecDepth 20000 in
theorem ggX10_cut_X8_takeRoll : GoodIn wsX10_cut wsX8_takeRoll := goodIn_r _ [123, 124, 125, 126, 127, 28, 128, 30, 129, 145, 146, 147] (by decide +kernel) (by decide +kernel)
set_option maxRecDepth 20000 in
theorem gX10_cut_X8_takeRoll : GoodIn wsX10_cut (wsV RX10 358 RX8 yX8_takeRoll wsX8_takeRoll) := goodIn_app (goodIn_of _ (by decide +kernel)) ggX10_cut_X8_takeRoll
theorem dX10_cut_0 : decode cX10_cut 0 = .ok (.aload_n 0, 1) := by decide +kernel
theorem dX10_cut_1 : decode cX10_cut 1 = .ok (.iload_n 1, 1) := by decide +kernel
theorem dX10_cut_2 : decode cX10_cut 2 = .ok (.iload_n 2, 1) := by decide +kernel
theorem dX10_cut_3 : decode cX10_cut 3 = .ok (.iload_n 3, 1) := by decide +kernel
theorem dX10_cut_4 : decode cX10_cut 4 = .ok (.invokevirtual 324, 3) := by decide +kernel
theorem dX10_cut_7 : decode cX10_cut 7 = .ok (.istore 4, 2) := by decide +kernel
theorem dX10_cut_9 : decode cX10_cut 9 = .ok (.iload 4, 2) := by decide +kernel
theorem dX10_cut_11 : decode cX10_cut 11 = .ok (.ifCond .eq 6, 3) := by decide +kernel
theorem dX10_cut_14 : decode cX10_cut 14 = .ok (.iload 4, 2) := by decide +kernel
theorem dX10_cut_16 : decode cX10_cut 16 = .ok (.ireturn, 1) := by decide +kernel
theorem dX10_cut_17 : decode cX10_cut 17 = .ok (.aload_n 0, 1) := by decide +kernel
theorem dX10_cut_18 : decode cX10_cut 18 = .ok (.getfield 35, 3) := by decide +kernel
theorem dX10_cut_21 : decode cX10_cut 21 = .ok (.getfield 259, 3) := by decide +kernel
theorem dX10_cut_24 : decode cX10_cut 24 = .ok (.iload_n 1, 1) := by decide +kernel
theorem dX10_cut_25 : decode cX10_cut 25 = .ok (.iaload, 1) := by decide +kernel
theorem dX10_cut_26 : decode cX10_cut 26 = .ok (.istore 5, 2) := by decide +kernel
theorem dX10_cut_28 : decode cX10_cut 28 = .ok (.aload_n 0, 1) := by decide +kernel
theorem dX10_cut_29 : decode cX10_cut 29 = .ok (.getfield 75, 3) := by decide +kernel
theorem dX10_cut_32 : decode cX10_cut 32 = .ok (.getfield 316, 3) := by decide +kernel
theorem dX10_cut_35 : decode cX10_cut 35 = .ok (.iload_n 2, 1) := by decide +kernel
theorem dX10_cut_36 : decode cX10_cut 36 = .ok (.iaload, 1) := by decide +kernel
theorem dX10_cut_37 : decode cX10_cut 37 = .ok (.istore 6, 2) := by decide +kernel
theorem dX10_cut_39 : decode cX10_cut 39 = .ok (.iload_n 3, 1) := by decide +kernel
theorem dX10_cut_40 : decode cX10_cut 40 = .ok (.aload_n 0, 1) := by decide +kernel
theorem dX10_cut_41 : decode cX10_cut 41 = .ok (.getfield 90, 3) := by decide +kernel
theorem dX10_cut_44 : decode cX10_cut 44 = .ok (.invokestatic 203, 3) := by decide +kernel
theorem dX10_cut_47 : decode cX10_cut 47 = .ok (.istore 7, 2) := by decide +kernel
theorem dX10_cut_49 : decode cX10_cut 49 = .ok (.aload_n 0, 1) := by decide +kernel
theorem dX10_cut_50 : decode cX10_cut 50 = .ok (.getfield 75, 3) := by decide +kernel
theorem dX10_cut_53 : decode cX10_cut 53 = .ok (.iload_n 2, 1) := by decide +kernel
theorem dX10_cut_54 : decode cX10_cut 54 = .ok (.iload_n 3, 1) := by decide +kernel
theorem dX10_cut_55 : decode cX10_cut 55 = .ok (.aload_n 0, 1) := by decide +kernel
theorem dX10_cut_56 : decode cX10_cut 56 = .ok (.getfield 90, 3) := by decide +kernel
theorem dX10_cut_59 : decode cX10_cut 59 = .ok (.invokevirtual 328, 3) := by decide +kernel
theorem dX10_cut_62 : decode cX10_cut 62 = .ok (.istore 8, 2) := by decide +kernel
theorem dX10_cut_64 : decode cX10_cut 64 = .ok (.aload_n 0, 1) := by decide +kernel
theorem dX10_cut_65 : decode cX10_cut 65 = .ok (.getfield 28, 3) := by decide +kernel
theorem dX10_cut_68 : decode cX10_cut 68 = .ok (.iload 5, 2) := by decide +kernel
theorem dX10_cut_70 : decode cX10_cut 70 = .ok (.iload 7, 2) := by decide +kernel
theorem dX10_cut_72 : decode cX10_cut 72 = .ok (.invokevirtual 331, 3) := by decide +kernel
theorem dX10_cut_75 : decode cX10_cut 75 = .ok (.aload_n 0, 1) := by decide +kernel
theorem dX10_cut_76 : decode cX10_cut 76 = .ok (.getfield 82, 3) := by decide +kernel
theorem dX10_cut_79 : decode cX10_cut 79 = .ok (.dup, 1) := by decide +kernel
theorem dX10_cut_80 : decode cX10_cut 80 = .ok (.getfield 334, 3) := by decide +kernel
theorem dX10_cut_83 : decode cX10_cut 83 = .ok (.aload_n 0, 1) := by decide +kernel
theorem dX10_cut_84 : decode cX10_cut 84 = .ok (.getfield 10, 3) := by decide +kernel
theorem dX10_cut_87 : decode cX10_cut 87 = .ok (.getfield 109, 3) := by decide +kernel
theorem dX10_cut_90 : decode cX10_cut 90 = .ok (.i2l, 1) := by decide +kernel
theorem dX10_cut_91 : decode cX10_cut 91 = .ok (.iload 6, 2) := by decide +kernel
theorem dX10_cut_93 : decode cX10_cut 93 = .ok (.i2l, 1) := by decide +kernel
theorem dX10_cut_94 : decode cX10_cut 94 = .ok (.lmul, 1) := by decide +kernel
theorem dX10_cut_95 : decode cX10_cut 95 = .ok (.ladd, 1) := by decide +kernel
theorem dX10_cut_96 : decode cX10_cut 96 = .ok (.putfield 334, 3) := by decide +kernel
theorem dX10_cut_99 : decode cX10_cut 99 = .ok (.aload_n 0, 1) := by decide +kernel
theorem dX10_cut_100 : decode cX10_cut 100 = .ok (.getfield 82, 3) := by decide +kernel
theorem dX10_cut_103 : decode cX10_cut 103 = .ok (.dup, 1) := by decide +kernel
theorem dX10_cut_104 : decode cX10_cut 104 = .ok (.getfield 338, 3) := by decide +kernel
theorem dX10_cut_107 : decode cX10_cut 107 = .ok (.aload_n 0, 1) := by decide +kernel
theorem dX10_cut_108 : decode cX10_cut 108 = .ok (.getfield 90, 3) := by decide +kernel
theorem dX10_cut_111 : decode cX10_cut 111 = .ok (.i2l, 1) := by decide +kernel
theorem dX10_cut_112 : decode cX10_cut 112 = .ok (.iload 7, 2) := by decide +kernel
theorem dX10_cut_114 : decode cX10_cut 114 = .ok (.i2l, 1) := by decide +kernel
theorem dX10_cut_115 : decode cX10_cut 115 = .ok (.lmul, 1) := by decide +kernel
theorem dX10_cut_116 : decode cX10_cut 116 = .ok (.aload_n 0, 1) := by decide +kernel
theorem dX10_cut_117 : decode cX10_cut 117 = .ok (.getfield 10, 3) := by decide +kernel
theorem dX10_cut_120 : decode cX10_cut 120 = .ok (.iload 5, 2) := by decide +kernel
theorem dX10_cut_122 : decode cX10_cut 122 = .ok (.invokevirtual 341, 3) := by decide +kernel
theorem dX10_cut_125 : decode cX10_cut 125 = .ok (.i2l, 1) := by decide +kernel
theorem dX10_cut_126 : decode cX10_cut 126 = .ok (.lmul, 1) := by decide +kernel
theorem dX10_cut_127 : decode cX10_cut 127 = .ok (.ladd, 1) := by decide +kernel
theorem dX10_cut_128 : decode cX10_cut 128 = .ok (.putfield 338, 3) := by decide +kernel
theorem dX10_cut_131 : decode cX10_cut 131 = .ok (.aload_n 0, 1) := by decide +kernel
theorem dX10_cut_132 : decode cX10_cut 132 = .ok (.getfield 82, 3) := by decide +kernel
theorem dX10_cut_135 : decode cX10_cut 135 = .ok (.dup, 1) := by decide +kernel
theorem dX10_cut_136 : decode cX10_cut 136 = .ok (.getfield 344, 3) := by decide +kernel
theorem dX10_cut_139 : decode cX10_cut 139 = .ok (.aload_n 0, 1) := by decide +kernel
theorem dX10_cut_140 : decode cX10_cut 140 = .ok (.getfield 10, 3) := by decide +kernel
theorem dX10_cut_143 : decode cX10_cut 143 = .ok (.getfield 109, 3) := by decide +kernel
theorem dX10_cut_146 : decode cX10_cut 146 = .ok (.i2l, 1) := by decide +kernel
theorem dX10_cut_147 : decode cX10_cut 147 = .ok (.iload 8, 2) := by decide +kernel
theorem dX10_cut_149 : decode cX10_cut 149 = .ok (.i2l, 1) := by decide +kernel
theorem dX10_cut_150 : decode cX10_cut 150 = .ok (.lmul, 1) := by decide +kernel
theorem dX10_cut_151 : decode cX10_cut 151 = .ok (.ladd, 1) := by decide +kernel
theorem dX10_cut_152 : decode cX10_cut 152 = .ok (.putfield 344, 3) := by decide +kernel
theorem dX10_cut_155 : decode cX10_cut 155 = .ok (.aload_n 0, 1) := by decide +kernel
theorem dX10_cut_156 : decode cX10_cut 156 = .ok (.getfield 82, 3) := by decide +kernel
theorem dX10_cut_159 : decode cX10_cut 159 = .ok (.dup, 1) := by decide +kernel
theorem dX10_cut_160 : decode cX10_cut 160 = .ok (.getfield 347, 3) := by decide +kernel
theorem dX10_cut_163 : decode cX10_cut 163 = .ok (.lconst 1, 1) := by decide +kernel
theorem dX10_cut_164 : decode cX10_cut 164 = .ok (.ladd, 1) := by decide +kernel
theorem dX10_cut_165 : decode cX10_cut 165 = .ok (.putfield 347, 3) := by decide +kernel
theorem dX10_cut_168 : decode cX10_cut 168 = .ok (.aload_n 0, 1) := by decide +kernel
theorem dX10_cut_169 : decode cX10_cut 169 = .ok (.getfield 82, 3) := by decide +kernel
theorem dX10_cut_172 : decode cX10_cut 172 = .ok (.dup, 1) := by decide +kernel
theorem dX10_cut_173 : decode cX10_cut 173 = .ok (.getfield 349, 3) := by decide +kernel
theorem dX10_cut_176 : decode cX10_cut 176 = .ok (.iload 7, 2) := by decide +kernel
theorem dX10_cut_178 : decode cX10_cut 178 = .ok (.i2l, 1) := by decide +kernel
theorem dX10_cut_179 : decode cX10_cut 179 = .ok (.ladd, 1) := by decide +kernel
theorem dX10_cut_180 : decode cX10_cut 180 = .ok (.putfield 349, 3) := by decide +kernel
theorem dX10_cut_183 : decode cX10_cut 183 = .ok (.aload_n 0, 1) := by decide +kernel
theorem dX10_cut_184 : decode cX10_cut 184 = .ok (.getfield 55, 3) := by decide +kernel
theorem dX10_cut_187 : decode cX10_cut 187 = .ok (.aload_n 0, 1) := by decide +kernel
theorem dX10_cut_188 : decode cX10_cut 188 = .ok (.getfield 10, 3) := by decide +kernel
theorem dX10_cut_191 : decode cX10_cut 191 = .ok (.iload 5, 2) := by decide +kernel
theorem dX10_cut_193 : decode cX10_cut 193 = .ok (.invokevirtual 288, 3) := by decide +kernel
theorem dX10_cut_196 : decode cX10_cut 196 = .ok (.aload_n 0, 1) := by decide +kernel
theorem dX10_cut_197 : decode cX10_cut 197 = .ok (.getfield 82, 3) := by decide +kernel
theorem dX10_cut_200 : decode cX10_cut 200 = .ok (.dup, 1) := by decide +kernel
theorem dX10_cut_201 : decode cX10_cut 201 = .ok (.getfield 352, 3) := by decide +kernel
theorem dX10_cut_204 : decode cX10_cut 204 = .ok (.aload_n 0, 1) := by decide +kernel
theorem dX10_cut_205 : decode cX10_cut 205 = .ok (.getfield 55, 3) := by decide +kernel
theorem dX10_cut_208 : decode cX10_cut 208 = .ok (.aload_n 0, 1) := by decide +kernel
theorem dX10_cut_209 : decode cX10_cut 209 = .ok (.getfield 48, 3) := by decide +kernel
theorem dX10_cut_212 : decode cX10_cut 212 = .ok (.invokevirtual 292, 3) := by decide +kernel
theorem dX10_cut_215 : decode cX10_cut 215 = .ok (.i2l, 1) := by decide +kernel
theorem dX10_cut_216 : decode cX10_cut 216 = .ok (.ladd, 1) := by decide +kernel
theorem dX10_cut_217 : decode cX10_cut 217 = .ok (.putfield 352, 3) := by decide +kernel
theorem dX10_cut_220 : decode cX10_cut 220 = .ok (.aload_n 0, 1) := by decide +kernel
theorem dX10_cut_221 : decode cX10_cut 221 = .ok (.getfield 48, 3) := by decide +kernel
theorem dX10_cut_224 : decode cX10_cut 224 = .ok (.aload_n 0, 1) := by decide +kernel
theorem dX10_cut_225 : decode cX10_cut 225 = .ok (.getfield 55, 3) := by decide +kernel
theorem dX10_cut_228 : decode cX10_cut 228 = .ok (.invokevirtual 355, 3) := by decide +kernel
theorem dX10_cut_231 : decode cX10_cut 231 = .ok (.aload_n 0, 1) := by decide +kernel
theorem dX10_cut_232 : decode cX10_cut 232 = .ok (.getfield 35, 3) := by decide +kernel
theorem dX10_cut_235 : decode cX10_cut 235 = .ok (.iload_n 1, 1) := by decide +kernel
theorem dX10_cut_236 : decode cX10_cut 236 = .ok (.invokevirtual 358, 3) := by decide +kernel
theorem dX10_cut_239 : decode cX10_cut 239 = .ok (.iconst 0, 1) := by decide +kernel
theorem dX10_cut_240 : decode cX10_cut 240 = .ok (.ireturn, 1) := by decide +kernel
set_option maxRecDepth 20000 in
theorem ggX10_area_X2_lost : GoodIn wsX10_area wsX2_lost := goodIn_r _ [13, 14, 15, 16, 32, 33, 34, 35, 36, 37] (by decide +kernel) (by decide +kernel)
set_option maxRecDepth 20000 in
theorem gX10_area_X2_lost : GoodIn wsX10_area (wsV RX10 360 RX2 yX2_lost wsX2_lost) := goodIn_app (goodIn_of _ (by decide +kernel)) ggX10_area_X2_lost
theorem dX10_area_0 : decode cX10_area 0 = .ok (.iload_n 1, 1) := by decide +kernel
theorem dX10_area_1 : decode cX10_area 1 = .ok (.tableswitch 99 0 6 #[43, 51, 59, 67, 75, 83, 91], 43) := by decide +kernel
theorem dX10_area_44 : decode cX10_area 44 = .ok (.aload_n 0, 1) := by decide +kernel
theorem dX10_area_45 : decode cX10_area 45 = .ok (.getfield 82, 3) := by decide +kernel
theorem dX10_area_48 : decode cX10_area 48 = .ok (.getfield 334, 3) := by decide +kernel
theorem dX10_area_51 : decode cX10_area 51 = .ok (.lreturn, 1) := by decide +kernel
theorem dX10_area_52 : decode cX10_area 52 = .ok (.aload_n 0, 1) := by decide +kernel
theorem dX10_area_53 : decode cX10_area 53 = .ok (.getfield 82, 3) := by decide +kernel
theorem dX10_area_56 : decode cX10_area 56 = .ok (.getfield 338, 3) := by decide +kernel
theorem dX10_area_59 : decode cX10_area 59 = .ok (.lreturn, 1) := by decide +kernel
theorem dX10_area_60 : decode cX10_area 60 = .ok (.aload_n 0, 1) := by decide +kernel
theorem dX10_area_61 : decode cX10_area 61 = .ok (.getfield 82, 3) := by decide +kernel
theorem dX10_area_64 : decode cX10_area 64 = .ok (.getfield 344, 3) := by decide +kernel
theorem dX10_area_67 : decode cX10_area 67 = .ok (.lreturn, 1) := by decide +kernel
theorem dX10_area_68 : decode cX10_area 68 = .ok (.aload_n 0, 1) := by decide +kernel
theorem dX10_area_69 : decode cX10_area 69 = .ok (.getfield 82, 3) := by decide +kernel
theorem dX10_area_72 : decode cX10_area 72 = .ok (.invokevirtual 360, 3) := by decide +kernel
theorem dX10_area_75 : decode cX10_area 75 = .ok (.lreturn, 1) := by decide +kernel
theorem dX10_area_76 : decode cX10_area 76 = .ok (.aload_n 0, 1) := by decide +kernel
theorem dX10_area_77 : decode cX10_area 77 = .ok (.getfield 82, 3) := by decide +kernel
theorem dX10_area_80 : decode cX10_area 80 = .ok (.getfield 347, 3) := by decide +kernel
theorem dX10_area_83 : decode cX10_area 83 = .ok (.lreturn, 1) := by decide +kernel
theorem dX10_area_84 : decode cX10_area 84 = .ok (.aload_n 0, 1) := by decide +kernel
theorem dX10_area_85 : decode cX10_area 85 = .ok (.getfield 82, 3) := by decide +kernel
theorem dX10_area_88 : decode cX10_area 88 = .ok (.getfield 349, 3) := by decide +kernel
theorem dX10_area_91 : decode cX10_area 91 = .ok (.lreturn, 1) := by decide +kernel
theorem dX10_area_92 : decode cX10_area 92 = .ok (.aload_n 0, 1) := by decide +kernel
theorem dX10_area_93 : decode cX10_area 93 = .ok (.getfield 82, 3) := by decide +kernel
theorem dX10_area_96 : decode cX10_area 96 = .ok (.getfield 352, 3) := by decide +kernel
theorem dX10_area_99 : decode cX10_area 99 = .ok (.lreturn, 1) := by decide +kernel
theorem dX10_area_100 : decode cX10_area 100 = .ok (.ldc2_w 364, 3) := by decide +kernel
theorem dX10_area_103 : decode cX10_area 103 = .ok (.lreturn, 1) := by decide +kernel
theorem dX10_share_0 : decode cX10_share 0 = .ok (.aload_n 0, 1) := by decide +kernel
theorem dX10_share_1 : decode cX10_share 1 = .ok (.getfield 21, 3) := by decide +kernel
theorem dX10_share_4 : decode cX10_share 4 = .ok (.iload_n 1, 1) := by decide +kernel
theorem dX10_share_5 : decode cX10_share 5 = .ok (.invokevirtual 161, 3) := by decide +kernel
theorem dX10_share_8 : decode cX10_share 8 = .ok (.ifCond .eq 12, 3) := by decide +kernel
theorem dX10_share_11 : decode cX10_share 11 = .ok (.iload_n 3, 1) := by decide +kernel
theorem dX10_share_12 : decode cX10_share 12 = .ok (.iconst 0, 1) := by decide +kernel
theorem dX10_share_13 : decode cX10_share 13 = .ok (.iconst 1, 1) := by decide +kernel
theorem dX10_share_14 : decode cX10_share 14 = .ok (.invokestatic 94, 3) := by decide +kernel
theorem dX10_share_17 : decode cX10_share 17 = .ok (.ifCond .ne 7, 3) := by decide +kernel
theorem dX10_share_20 : decode cX10_share 20 = .ok (.ldc_w 366, 3) := by decide +kernel
theorem dX10_share_23 : decode cX10_share 23 = .ok (.ireturn, 1) := by decide +kernel
theorem dX10_share_24 : decode cX10_share 24 = .ok (.iload_n 2, 1) := by decide +kernel
theorem dX10_share_25 : decode cX10_share 25 = .ok (.ifCond .ne 14, 3) := by decide +kernel
theorem dX10_share_28 : decode cX10_share 28 = .ok (.new 367, 3) := by decide +kernel
theorem dX10_share_31 : decode cX10_share 31 = .ok (.dup, 1) := by decide +kernel
theorem dX10_share_32 : decode cX10_share 32 = .ok (.ldc_w 369, 3) := by decide +kernel
theorem dX10_share_35 : decode cX10_share 35 = .ok (.invokespecial 371, 3) := by decide +kernel
theorem dX10_share_38 : decode cX10_share 38 = .ok (.athrow, 1) := by decide +kernel
theorem dX10_share_39 : decode cX10_share 39 = .ok (.aload_n 0, 1) := by decide +kernel
theorem dX10_share_40 : decode cX10_share 40 = .ok (.getfield 10, 3) := by decide +kernel
theorem dX10_share_43 : decode cX10_share 43 = .ok (.aload_n 0, 1) := by decide +kernel
theorem dX10_share_44 : decode cX10_share 44 = .ok (.getfield 21, 3) := by decide +kernel
theorem dX10_share_47 : decode cX10_share 47 = .ok (.iload_n 1, 1) := by decide +kernel
theorem dX10_share_48 : decode cX10_share 48 = .ok (.invokevirtual 166, 3) := by decide +kernel
theorem dX10_share_51 : decode cX10_share 51 = .ok (.invokevirtual 341, 3) := by decide +kernel
theorem dX10_share_54 : decode cX10_share 54 = .ok (.istore 4, 2) := by decide +kernel
theorem dX10_share_56 : decode cX10_share 56 = .ok (.iload_n 3, 1) := by decide +kernel
theorem dX10_share_57 : decode cX10_share 57 = .ok (.ifCond .ne 10, 3) := by decide +kernel
theorem dX10_share_60 : decode cX10_share 60 = .ok (.iload 4, 2) := by decide +kernel
theorem dX10_share_62 : decode cX10_share 62 = .ok (.iload_n 2, 1) := by decide +kernel
theorem dX10_share_63 : decode cX10_share 63 = .ok (.idiv, 1) := by decide +kernel
theorem dX10_share_64 : decode cX10_share 64 = .ok (.goto 7, 3) := by decide +kernel
theorem dX10_share_67 : decode cX10_share 67 = .ok (.iload 4, 2) := by decide +kernel
theorem dX10_share_69 : decode cX10_share 69 = .ok (.iload_n 2, 1) := by decide +kernel
theorem dX10_share_70 : decode cX10_share 70 = .ok (.irem, 1) := by decide +kernel
theorem dX10_share_71 : decode cX10_share 71 = .ok (.ireturn, 1) := by decide +kernel
theorem dX10_within_0 : decode cX10_within 0 = .ok (.iload_n 1, 1) := by decide +kernel
theorem dX10_within_1 : decode cX10_within 1 = .ok (.iload_n 0, 1) := by decide +kernel
theorem dX10_within_2 : decode cX10_within 2 = .ok (.if_icmp .gt 12, 3) := by decide +kernel
theorem dX10_within_5 : decode cX10_within 5 = .ok (.iload_n 0, 1) := by decide +kernel
theorem dX10_within_6 : decode cX10_within 6 = .ok (.iload_n 2, 1) := by decide +kernel
theorem dX10_within_7 : decode cX10_within 7 = .ok (.if_icmp .gt 7, 3) := by decide +kernel
theorem dX10_within_10 : decode cX10_within 10 = .ok (.iconst 1, 1) := by decide +kernel
theorem dX10_within_11 : decode cX10_within 11 = .ok (.goto 4, 3) := by decide +kernel
theorem dX10_within_14 : decode cX10_within 14 = .ok (.iconst 0, 1) := by decide +kernel
theorem dX10_within_15 : decode cX10_within 15 = .ok (.ireturn, 1) := by decide +kernel
theorem dX10_quotient_0 : decode cX10_quotient 0 = .ok (.iload_n 1, 1) := by decide +kernel
theorem dX10_quotient_1 : decode cX10_quotient 1 = .ok (.iconst 1, 1) := by decide +kernel
theorem dX10_quotient_2 : decode cX10_quotient 2 = .ok (.if_icmp .ge 7, 3) := by decide +kernel
theorem dX10_quotient_5 : decode cX10_quotient 5 = .ok (.iconst 0, 1) := by decide +kernel
theorem dX10_quotient_6 : decode cX10_quotient 6 = .ok (.goto 6, 3) := by decide +kernel
theorem dX10_quotient_9 : decode cX10_quotient 9 = .ok (.iload_n 0, 1) := by decide +kernel
theorem dX10_quotient_10 : decode cX10_quotient 10 = .ok (.iload_n 1, 1) := by decide +kernel
theorem dX10_quotient_11 : decode cX10_quotient 11 = .ok (.idiv, 1) := by decide +kernel
theorem dX10_quotient_12 : decode cX10_quotient 12 = .ok (.ireturn, 1) := by decide +kernel
set_option maxRecDepth 20000 in
theorem ggX10_areCounts_X10_within : GoodIn wsX10_areCounts wsX10_within := goodIn_r _ [4] (by decide +kernel) (by decide +kernel)
set_option maxRecDepth 20000 in
theorem gX10_areCounts_X10_within : GoodIn wsX10_areCounts (va_wsS RX10 94 yX10_within wsX10_within) := goodIn_app (goodIn_of _ (by decide +kernel)) ggX10_areCounts_X10_within
theorem dX10_areCounts_0 : decode cX10_areCounts 0 = .ok (.iload_n 0, 1) := by decide +kernel
theorem dX10_areCounts_1 : decode cX10_areCounts 1 = .ok (.iconst 0, 1) := by decide +kernel
theorem dX10_areCounts_2 : decode cX10_areCounts 2 = .ok (.bipush 20, 2) := by decide +kernel
theorem dX10_areCounts_4 : decode cX10_areCounts 4 = .ok (.invokestatic 94, 3) := by decide +kernel
theorem dX10_areCounts_7 : decode cX10_areCounts 7 = .ok (.ifCond .eq 27, 3) := by decide +kernel
theorem dX10_areCounts_10 : decode cX10_areCounts 10 = .ok (.iload_n 1, 1) := by decide +kernel
theorem dX10_areCounts_11 : decode cX10_areCounts 11 = .ok (.iconst 0, 1) := by decide +kernel
theorem dX10_areCounts_12 : decode cX10_areCounts 12 = .ok (.bipush 20, 2) := by decide +kernel
theorem dX10_areCounts_14 : decode cX10_areCounts 14 = .ok (.invokestatic 94, 3) := by decide +kernel
theorem dX10_areCounts_17 : decode cX10_areCounts 17 = .ok (.ifCond .eq 17, 3) := by decide +kernel
theorem dX10_areCounts_20 : decode cX10_areCounts 20 = .ok (.iload_n 2, 1) := by decide +kernel
theorem dX10_areCounts_21 : decode cX10_areCounts 21 = .ok (.iconst 0, 1) := by decide +kernel
theorem dX10_areCounts_22 : decode cX10_areCounts 22 = .ok (.bipush 20, 2) := by decide +kernel
theorem dX10_areCounts_24 : decode cX10_areCounts 24 = .ok (.invokestatic 94, 3) := by decide +kernel
theorem dX10_areCounts_27 : decode cX10_areCounts 27 = .ok (.ifCond .eq 7, 3) := by decide +kernel
theorem dX10_areCounts_30 : decode cX10_areCounts 30 = .ok (.iconst 1, 1) := by decide +kernel
theorem dX10_areCounts_31 : decode cX10_areCounts 31 = .ok (.goto 4, 3) := by decide +kernel
theorem dX10_areCounts_34 : decode cX10_areCounts 34 = .ok (.iconst 0, 1) := by decide +kernel
theorem dX10_areCounts_35 : decode cX10_areCounts 35 = .ok (.ireturn, 1) := by decide +kernel
set_option maxRecDepth 20000 in
theorem ggX10_forgetPatterns_X5_forget : GoodIn wsX10_forgetPatterns wsX5_forget := goodIn_r _ [8, 9, 31, 32, 33, 34, 35] (by decide +kernel) (by decide +kernel)
set_option maxRecDepth 20000 in
theorem gX10_forgetPatterns_X5_forget : GoodIn wsX10_forgetPatterns (wsV RX10 374 RX5 yX5_forget wsX5_forget) := goodIn_app (goodIn_of _ (by decide +kernel)) ggX10_forgetPatterns_X5_forget
set_option maxRecDepth 20000 in
theorem ggX10_forgetPatterns_X8_clear : GoodIn wsX10_forgetPatterns wsX8_clear := goodIn_r _ [14, 15, 36, 37, 38] (by decide +kernel) (by decide +kernel)
set_option maxRecDepth 20000 in
theorem gX10_forgetPatterns_X8_clear : GoodIn wsX10_forgetPatterns (wsV RX10 209 RX8 yX8_clear wsX8_clear) := goodIn_app (goodIn_of _ (by decide +kernel)) ggX10_forgetPatterns_X8_clear
theorem dX10_forgetPatterns_0 : decode cX10_forgetPatterns 0 = .ok (.aload_n 0, 1) := by decide +kernel
theorem dX10_forgetPatterns_1 : decode cX10_forgetPatterns 1 = .ok (.getfield 21, 3) := by decide +kernel
theorem dX10_forgetPatterns_4 : decode cX10_forgetPatterns 4 = .ok (.invokevirtual 374, 3) := by decide +kernel
theorem dX10_forgetPatterns_7 : decode cX10_forgetPatterns 7 = .ok (.aload_n 0, 1) := by decide +kernel
theorem dX10_forgetPatterns_8 : decode cX10_forgetPatterns 8 = .ok (.getfield 35, 3) := by decide +kernel
theorem dX10_forgetPatterns_11 : decode cX10_forgetPatterns 11 = .ok (.invokevirtual 209, 3) := by decide +kernel
theorem dX10_forgetPatterns_14 : decode cX10_forgetPatterns 14 = .ok (.aload_n 0, 1) := by decide +kernel
theorem dX10_forgetPatterns_15 : decode cX10_forgetPatterns 15 = .ok (.iconst 0, 1) := by decide +kernel
theorem dX10_forgetPatterns_16 : decode cX10_forgetPatterns 16 = .ok (.putfield 86, 3) := by decide +kernel
theorem dX10_forgetPatterns_19 : decode cX10_forgetPatterns 19 = .ok (.return_, 1) := by decide +kernel
set_option maxRecDepth 20000 in
theorem ggX10_worthiest_X5_count : GoodIn wsX10_worthiest wsX5_count := goodIn_r _ [7, 8, 9, 10, 11, 6, 12, 13, 14, 15, 16, 17, 18, 19, 20, 21, 22, 23, 24, 25, 26, 27, 28, 29, 30, 31, 32, 33, 34, 35, 36, 37, 38, 39, 40, 41, 42, 43, 44, 45, 76, 77, 78, 79, 80, 81, 82, 83, 84, 85, 86, 87, 88] (by decide +kernel) (by decide +kernel)
set_option maxRecDepth 20000 in
theorem gX10_worthiest_X5_count : GoodIn wsX10_worthiest (wsV RX10 158 RX5 yX5_count wsX5_count) := goodIn_app (goodIn_of _ (by decide +kernel)) ggX10_worthiest_X5_count
set_option maxRecDepth 20000 in
theorem ggX10_worthiest_X5_codeAt : GoodIn wsX10_worthiest wsX5_codeAt := goodIn_r _ [49, 8, 38, 76, 77, 78, 79, 80] (by decide +kernel) (by decide +kernel)
set_option maxRecDepth 20000 in
theorem gX10_worthiest_X5_codeAt : GoodIn wsX10_worthiest (wsV RX10 166 RX5 yX5_codeAt wsX5_codeAt) := goodIn_app (goodIn_of _ (by decide +kernel)) ggX10_worthiest_X5_codeAt
set_option maxRecDepth 20000 in
theorem ggX10_worthiest_X6_worthOf : GoodIn wsX10_worthiest wsX6_worthOf := goodIn_r _ [54, 55, 56, 57, 58, 59, 44, 60, 89, 90, 91, 92, 93, 94, 81, 82, 83, 84, 85, 86, 87, 88] (by decide +kernel) (by decide +kernel)
set_option maxRecDepth 20000 in
theorem gX10_worthiest_X6_worthOf : GoodIn wsX10_worthiest (wsV RX10 178 RX6 yX6_worthOf wsX6_worthOf) := goodIn_app (goodIn_of _ (by decide +kernel)) ggX10_worthiest_X6_worthOf
theorem dX10_worthiest_0 : decode cX10_worthiest 0 = .ok (.iconst (-1), 1) := by decide +kernel
theorem dX10_worthiest_1 : decode cX10_worthiest 1 = .ok (.istore_n 1, 1) := by decide +kernel
theorem dX10_worthiest_2 : decode cX10_worthiest 2 = .ok (.iconst (-1), 1) := by decide +kernel
theorem dX10_worthiest_3 : decode cX10_worthiest 3 = .ok (.istore_n 2, 1) := by decide +kernel
theorem dX10_worthiest_4 : decode cX10_worthiest 4 = .ok (.aload_n 0, 1) := by decide +kernel
theorem dX10_worthiest_5 : decode cX10_worthiest 5 = .ok (.getfield 21, 3) := by decide +kernel
theorem dX10_worthiest_8 : decode cX10_worthiest 8 = .ok (.invokevirtual 158, 3) := by decide +kernel
theorem dX10_worthiest_11 : decode cX10_worthiest 11 = .ok (.istore_n 3, 1) := by decide +kernel
theorem dX10_worthiest_12 : decode cX10_worthiest 12 = .ok (.iconst 0, 1) := by decide +kernel
theorem dX10_worthiest_13 : decode cX10_worthiest 13 = .ok (.istore 4, 2) := by decide +kernel
theorem dX10_worthiest_15 : decode cX10_worthiest 15 = .ok (.iload 4, 2) := by decide +kernel
theorem dX10_worthiest_17 : decode cX10_worthiest 17 = .ok (.iload_n 3, 1) := by decide +kernel
theorem dX10_worthiest_18 : decode cX10_worthiest 18 = .ok (.if_icmp .ge 39, 3) := by decide +kernel
theorem dX10_worthiest_21 : decode cX10_worthiest 21 = .ok (.aload_n 0, 1) := by decide +kernel
theorem dX10_worthiest_22 : decode cX10_worthiest 22 = .ok (.getfield 28, 3) := by decide +kernel
theorem dX10_worthiest_25 : decode cX10_worthiest 25 = .ok (.aload_n 0, 1) := by decide +kernel
theorem dX10_worthiest_26 : decode cX10_worthiest 26 = .ok (.getfield 21, 3) := by decide +kernel
theorem dX10_worthiest_29 : decode cX10_worthiest 29 = .ok (.iload 4, 2) := by decide +kernel
theorem dX10_worthiest_31 : decode cX10_worthiest 31 = .ok (.invokevirtual 166, 3) := by decide +kernel
theorem dX10_worthiest_34 : decode cX10_worthiest 34 = .ok (.invokevirtual 178, 3) := by decide +kernel
theorem dX10_worthiest_37 : decode cX10_worthiest 37 = .ok (.istore 5, 2) := by decide +kernel
theorem dX10_worthiest_39 : decode cX10_worthiest 39 = .ok (.iload 5, 2) := by decide +kernel
theorem dX10_worthiest_41 : decode cX10_worthiest 41 = .ok (.iload_n 2, 1) := by decide +kernel
theorem dX10_worthiest_42 : decode cX10_worthiest 42 = .ok (.if_icmp .le 9, 3) := by decide +kernel
theorem dX10_worthiest_45 : decode cX10_worthiest 45 = .ok (.iload 5, 2) := by decide +kernel
theorem dX10_worthiest_47 : decode cX10_worthiest 47 = .ok (.istore_n 2, 1) := by decide +kernel
theorem dX10_worthiest_48 : decode cX10_worthiest 48 = .ok (.iload 4, 2) := by decide +kernel
theorem dX10_worthiest_50 : decode cX10_worthiest 50 = .ok (.istore_n 1, 1) := by decide +kernel
theorem dX10_worthiest_51 : decode cX10_worthiest 51 = .ok (.iinc 4 1, 3) := by decide +kernel
theorem dX10_worthiest_54 : decode cX10_worthiest 54 = .ok (.goto (-39), 3) := by decide +kernel
theorem dX10_worthiest_57 : decode cX10_worthiest 57 = .ok (.iload_n 1, 1) := by decide +kernel
theorem dX10_worthiest_58 : decode cX10_worthiest 58 = .ok (.ireturn, 1) := by decide +kernel
set_option maxRecDepth 20000 in
theorem ggX10_isWantedWithoutRoom_X6_wanted : GoodIn wsX10_isWantedWithoutRoom wsX6_wanted := goodIn_r _ [9, 10, 11, 12, 13, 14, 15, 46, 47, 48, 49, 50, 51] (by decide +kernel) (by decide +kernel)
set_option maxRecDepth 20000 in
theorem gX10_isWantedWithoutRoom_X6_wanted : GoodIn wsX10_isWantedWithoutRoom (wsV RX10 146 RX6 yX6_wanted wsX6_wanted) := goodIn_app (goodIn_of _ (by decide +kernel)) ggX10_isWantedWithoutRoom_X6_wanted
set_option maxRecDepth 20000 in
theorem ggX10_isWantedWithoutRoom_X4_room : GoodIn wsX10_isWantedWithoutRoom wsX4_room := goodIn_r _ [20, 21, 22, 38, 39, 40, 41, 42, 43, 44, 45] (by decide +kernel) (by decide +kernel)
set_option maxRecDepth 20000 in
theorem gX10_isWantedWithoutRoom_X4_room : GoodIn wsX10_isWantedWithoutRoom (wsV RX10 377 RX4 yX4_room wsX4_room) := goodIn_app (goodIn_of _ (by decide +kernel)) ggX10_isWantedWithoutRoom_X4_room
theorem dX10_isWantedWithoutRoom_0 : decode cX10_isWantedWithoutRoom 0 = .ok (.iconst 0, 1) := by decide +kernel
theorem dX10_isWantedWithoutRoom_1 : decode cX10_isWantedWithoutRoom 1 = .ok (.istore_n 1, 1) := by decide +kernel
theorem dX10_isWantedWithoutRoom_2 : decode cX10_isWantedWithoutRoom 2 = .ok (.iload_n 1, 1) := by decide +kernel
theorem dX10_isWantedWithoutRoom_3 : decode cX10_isWantedWithoutRoom 3 = .ok (.aload_n 0, 1) := by decide +kernel
theorem dX10_isWantedWithoutRoom_4 : decode cX10_isWantedWithoutRoom 4 = .ok (.getfield 10, 3) := by decide +kernel
theorem dX10_isWantedWithoutRoom_7 : decode cX10_isWantedWithoutRoom 7 = .ok (.getfield 118, 3) := by decide +kernel
theorem dX10_isWantedWithoutRoom_10 : decode cX10_isWantedWithoutRoom 10 = .ok (.if_icmp .ge 41, 3) := by decide +kernel
theorem dX10_isWantedWithoutRoom_13 : decode cX10_isWantedWithoutRoom 13 = .ok (.aload_n 0, 1) := by decide +kernel
theorem dX10_isWantedWithoutRoom_14 : decode cX10_isWantedWithoutRoom 14 = .ok (.getfield 28, 3) := by decide +kernel
theorem dX10_isWantedWithoutRoom_17 : decode cX10_isWantedWithoutRoom 17 = .ok (.iload_n 1, 1) := by decide +kernel
theorem dX10_isWantedWithoutRoom_18 : decode cX10_isWantedWithoutRoom 18 = .ok (.invokevirtual 146, 3) := by decide +kernel
theorem dX10_isWantedWithoutRoom_21 : decode cX10_isWantedWithoutRoom 21 = .ok (.ifCond .le 24, 3) := by decide +kernel
theorem dX10_isWantedWithoutRoom_24 : decode cX10_isWantedWithoutRoom 24 = .ok (.aload_n 0, 1) := by decide +kernel
theorem dX10_isWantedWithoutRoom_25 : decode cX10_isWantedWithoutRoom 25 = .ok (.getfield 10, 3) := by decide +kernel
theorem dX10_isWantedWithoutRoom_28 : decode cX10_isWantedWithoutRoom 28 = .ok (.getfield 140, 3) := by decide +kernel
theorem dX10_isWantedWithoutRoom_31 : decode cX10_isWantedWithoutRoom 31 = .ok (.iload_n 1, 1) := by decide +kernel
theorem dX10_isWantedWithoutRoom_32 : decode cX10_isWantedWithoutRoom 32 = .ok (.iaload, 1) := by decide +kernel
theorem dX10_isWantedWithoutRoom_33 : decode cX10_isWantedWithoutRoom 33 = .ok (.aload_n 0, 1) := by decide +kernel
theorem dX10_isWantedWithoutRoom_34 : decode cX10_isWantedWithoutRoom 34 = .ok (.getfield 10, 3) := by decide +kernel
theorem dX10_isWantedWithoutRoom_37 : decode cX10_isWantedWithoutRoom 37 = .ok (.invokevirtual 377, 3) := by decide +kernel
theorem dX10_isWantedWithoutRoom_40 : decode cX10_isWantedWithoutRoom 40 = .ok (.if_icmp .le 5, 3) := by decide +kernel
theorem dX10_isWantedWithoutRoom_43 : decode cX10_isWantedWithoutRoom 43 = .ok (.iconst 1, 1) := by decide +kernel
theorem dX10_isWantedWithoutRoom_44 : decode cX10_isWantedWithoutRoom 44 = .ok (.ireturn, 1) := by decide +kernel
theorem dX10_isWantedWithoutRoom_45 : decode cX10_isWantedWithoutRoom 45 = .ok (.iinc 1 1, 3) := by decide +kernel
theorem dX10_isWantedWithoutRoom_48 : decode cX10_isWantedWithoutRoom 48 = .ok (.goto (-46), 3) := by decide +kernel
theorem dX10_isWantedWithoutRoom_51 : decode cX10_isWantedWithoutRoom 51 = .ok (.iconst 0, 1) := by decide +kernel
theorem dX10_isWantedWithoutRoom_52 : decode cX10_isWantedWithoutRoom 52 = .ok (.ireturn, 1) := by decide +kernel
set_option maxRecDepth 20000 in
theorem ggX10_draftFewest_X8_clear : GoodIn wsX10_draftFewest wsX8_clear := goodIn_r _ [8, 9, 113, 114, 115] (by decide +kernel) (by decide +kernel)
set_option maxRecDepth 20000 in
theorem gX10_draftFewest_X8_clear : GoodIn wsX10_draftFewest (wsV RX10 209 RX8 yX8_clear wsX8_clear) := goodIn_app (goodIn_of _ (by decide +kernel)) ggX10_draftFewest_X8_clear
set_option maxRecDepth 20000 in
theorem ggX10_draftFewest_X7_firstFrom : GoodIn wsX10_draftFewest wsX7_firstFrom := goodIn_r _ [14, 15, 16, 17, 18, 19, 20, 21, 22, 23, 24, 25, 26, 27, 28, 29, 30, 31, 32, 33, 34, 35, 36, 37, 38, 39, 40, 41, 42, 43, 44, 45, 46, 47, 48, 49, 50, 51, 52, 53, 54, 55, 56, 57, 58, 59, 60, 61, 62, 63, 64, 65, 66, 13, 67, 68, 69, 70, 71, 72, 73, 74, 75, 116, 117, 118, 119, 120, 121, 122, 123, 124, 125, 126, 127, 128, 129, 130, 131, 132, 133, 134, 135, 136, 137] (by decide +kernel) (by decide +kernel)
set_option maxRecDepth 20000 in
theorem gX10_draftFewest_X7_firstFrom : GoodIn wsX10_draftFewest (wsV RX10 380 RX7 yX7_firstFrom wsX7_firstFrom) := goodIn_app (goodIn_of _ (by decide +kernel)) ggX10_draftFewest_X7_firstFrom
set_option maxRecDepth 20000 in
theorem ggX10_draftFewest_X5_codeAt : GoodIn wsX10_draftFewest wsX5_codeAt := goodIn_r _ [63, 22, 52, 125, 126, 127, 128, 129] (by decide +kernel) (by decide +kernel)
set_option maxRecDepth 20000 in
theorem gX10_draftFewest_X5_codeAt : GoodIn wsX10_draftFewest (wsV RX10 166 RX5 yX5_codeAt wsX5_codeAt) := goodIn_app (goodIn_of _ (by decide +kernel)) ggX10_draftFewest_X5_codeAt
set_option maxRecDepth 20000 in
theorem ggX10_draftFewest_X8_addRoll : GoodIn wsX10_draftFewest wsX8_addRoll := goodIn_r _ [80, 9, 81, 82, 83, 84, 85, 7, 86, 87, 88, 89, 90, 113, 114, 115] (by decide +kernel) (by decide +kernel)
set_option maxRecDepth 20000 in
theorem gX10_draftFewest_X8_addRoll : GoodIn wsX10_draftFewest (wsV RX10 221 RX8 yX8_addRoll wsX8_addRoll) := goodIn_app (goodIn_of _ (by decide +kernel)) ggX10_draftFewest_X8_addRoll
set_option maxRecDepth 20000 in
theorem ggX10_draftFewest_X7_take : GoodIn wsX10_draftFewest wsX7_take := goodIn_r _ [94, 16, 68, 69, 70, 95, 96, 46, 97, 64, 65, 66, 13, 67, 71, 45, 47, 72, 73, 74, 58, 75, 116, 117, 118, 119, 120, 121, 122, 123, 124, 130, 131, 132, 133, 134, 135, 136, 137] (by decide +kernel) (by decide +kernel)
set_option maxRecDepth 20000 in
theorem gX10_draftFewest_X7_take : GoodIn wsX10_draftFewest (wsV RX10 384 RX7 yX7_take wsX7_take) := goodIn_app (goodIn_of _ (by decide +kernel)) ggX10_draftFewest_X7_take
theorem dX10_draftFewest_0 : decode cX10_draftFewest 0 = .ok (.aload_n 0, 1) := by decide +kernel
theorem dX10_draftFewest_1 : decode cX10_draftFewest 1 = .ok (.getfield 42, 3) := by decide +kernel
theorem dX10_draftFewest_4 : decode cX10_draftFewest 4 = .ok (.invokevirtual 209, 3) := by decide +kernel
theorem dX10_draftFewest_7 : decode cX10_draftFewest 7 = .ok (.iconst 0, 1) := by decide +kernel
theorem dX10_draftFewest_8 : decode cX10_draftFewest 8 = .ok (.istore_n 2, 1) := by decide +kernel
theorem dX10_draftFewest_9 : decode cX10_draftFewest 9 = .ok (.iconst 0, 1) := by decide +kernel
theorem dX10_draftFewest_10 : decode cX10_draftFewest 10 = .ok (.istore_n 3, 1) := by decide +kernel
theorem dX10_draftFewest_11 : decode cX10_draftFewest 11 = .ok (.iload_n 3, 1) := by decide +kernel
theorem dX10_draftFewest_12 : decode cX10_draftFewest 12 = .ok (.iload_n 1, 1) := by decide +kernel
theorem dX10_draftFewest_13 : decode cX10_draftFewest 13 = .ok (.if_icmp .ge 55, 3) := by decide +kernel
theorem dX10_draftFewest_16 : decode cX10_draftFewest 16 = .ok (.aload_n 0, 1) := by decide +kernel
theorem dX10_draftFewest_17 : decode cX10_draftFewest 17 = .ok (.getfield 68, 3) := by decide +kernel
theorem dX10_draftFewest_20 : decode cX10_draftFewest 20 = .ok (.iload_n 2, 1) := by decide +kernel
theorem dX10_draftFewest_21 : decode cX10_draftFewest 21 = .ok (.aload_n 0, 1) := by decide +kernel
theorem dX10_draftFewest_22 : decode cX10_draftFewest 22 = .ok (.getfield 21, 3) := by decide +kernel
theorem dX10_draftFewest_25 : decode cX10_draftFewest 25 = .ok (.invokevirtual 380, 3) := by decide +kernel
theorem dX10_draftFewest_28 : decode cX10_draftFewest 28 = .ok (.istore_n 2, 1) := by decide +kernel
theorem dX10_draftFewest_29 : decode cX10_draftFewest 29 = .ok (.aload_n 0, 1) := by decide +kernel
theorem dX10_draftFewest_30 : decode cX10_draftFewest 30 = .ok (.getfield 21, 3) := by decide +kernel
theorem dX10_draftFewest_33 : decode cX10_draftFewest 33 = .ok (.iload_n 2, 1) := by decide +kernel
theorem dX10_draftFewest_34 : decode cX10_draftFewest 34 = .ok (.invokevirtual 166, 3) := by decide +kernel
theorem dX10_draftFewest_37 : decode cX10_draftFewest 37 = .ok (.istore 4, 2) := by decide +kernel
theorem dX10_draftFewest_39 : decode cX10_draftFewest 39 = .ok (.aload_n 0, 1) := by decide +kernel
theorem dX10_draftFewest_40 : decode cX10_draftFewest 40 = .ok (.getfield 42, 3) := by decide +kernel
theorem dX10_draftFewest_43 : decode cX10_draftFewest 43 = .ok (.iload 4, 2) := by decide +kernel
theorem dX10_draftFewest_45 : decode cX10_draftFewest 45 = .ok (.invokevirtual 221, 3) := by decide +kernel
theorem dX10_draftFewest_48 : decode cX10_draftFewest 48 = .ok (.ifCond .ne 5, 3) := by decide +kernel
theorem dX10_draftFewest_51 : decode cX10_draftFewest 51 = .ok (.iconst 0, 1) := by decide +kernel
theorem dX10_draftFewest_52 : decode cX10_draftFewest 52 = .ok (.ireturn, 1) := by decide +kernel
theorem dX10_draftFewest_53 : decode cX10_draftFewest 53 = .ok (.aload_n 0, 1) := by decide +kernel
theorem dX10_draftFewest_54 : decode cX10_draftFewest 54 = .ok (.getfield 68, 3) := by decide +kernel
theorem dX10_draftFewest_57 : decode cX10_draftFewest 57 = .ok (.iload 4, 2) := by decide +kernel
theorem dX10_draftFewest_59 : decode cX10_draftFewest 59 = .ok (.invokevirtual 384, 3) := by decide +kernel
theorem dX10_draftFewest_62 : decode cX10_draftFewest 62 = .ok (.iinc 3 1, 3) := by decide +kernel
theorem dX10_draftFewest_65 : decode cX10_draftFewest 65 = .ok (.goto (-54), 3) := by decide +kernel
theorem dX10_draftFewest_68 : decode cX10_draftFewest 68 = .ok (.iconst 1, 1) := by decide +kernel
theorem dX10_draftFewest_69 : decode cX10_draftFewest 69 = .ok (.ireturn, 1) := by decide +kernel
set_option maxRecDepth 20000 in
theorem ggX10_movesTo_X1_lay : GoodIn wsX10_movesTo wsX1_lay := goodIn_r _ [11, 12, 13, 14, 15, 16, 17, 18, 10, 19, 20, 21, 22, 23, 24, 47, 48, 49, 50, 51, 52, 53, 54, 55, 56] (by decide +kernel) (by decide +kernel)
set_option maxRecDepth 20000 in
theorem gX10_movesTo_X1_lay : GoodIn wsX10_movesTo (wsV RX10 288 RX1 yX1_lay wsX1_lay) := goodIn_app (goodIn_of _ (by decide +kernel)) ggX10_movesTo_X1_lay
set_option maxRecDepth 20000 in
theorem ggX10_movesTo_X1_movesFrom : GoodIn wsX10_movesTo wsX1_movesFrom := goodIn_r _ [28, 12, 20, 47, 48] (by decide +kernel) (by decide +kernel)
set_option maxRecDepth 20000 in
theorem gX10_movesTo_X1_movesFrom : GoodIn wsX10_movesTo (wsV RX10 292 RX1 yX1_movesFrom wsX1_movesFrom) := goodIn_app (goodIn_of _ (by decide +kernel)) ggX10_movesTo_X1_movesFrom
theorem dX10_movesTo_0 : decode cX10_movesTo 0 = .ok (.aload_n 0, 1) := by decide +kernel
theorem dX10_movesTo_1 : decode cX10_movesTo 1 = .ok (.getfield 55, 3) := by decide +kernel
theorem dX10_movesTo_4 : decode cX10_movesTo 4 = .ok (.aload_n 0, 1) := by decide +kernel
theorem dX10_movesTo_5 : decode cX10_movesTo 5 = .ok (.getfield 10, 3) := by decide +kernel
theorem dX10_movesTo_8 : decode cX10_movesTo 8 = .ok (.aload_n 0, 1) := by decide +kernel
theorem dX10_movesTo_9 : decode cX10_movesTo 9 = .ok (.getfield 35, 3) := by decide +kernel
theorem dX10_movesTo_12 : decode cX10_movesTo 12 = .ok (.getfield 259, 3) := by decide +kernel
theorem dX10_movesTo_15 : decode cX10_movesTo 15 = .ok (.iload_n 1, 1) := by decide +kernel
theorem dX10_movesTo_16 : decode cX10_movesTo 16 = .ok (.iaload, 1) := by decide +kernel
theorem dX10_movesTo_17 : decode cX10_movesTo 17 = .ok (.invokevirtual 288, 3) := by decide +kernel
theorem dX10_movesTo_20 : decode cX10_movesTo 20 = .ok (.iload_n 1, 1) := by decide +kernel
theorem dX10_movesTo_21 : decode cX10_movesTo 21 = .ok (.ifCond .ne 15, 3) := by decide +kernel
theorem dX10_movesTo_24 : decode cX10_movesTo 24 = .ok (.aload_n 0, 1) := by decide +kernel
theorem dX10_movesTo_25 : decode cX10_movesTo 25 = .ok (.getfield 55, 3) := by decide +kernel
theorem dX10_movesTo_28 : decode cX10_movesTo 28 = .ok (.aload_n 0, 1) := by decide +kernel
theorem dX10_movesTo_29 : decode cX10_movesTo 29 = .ok (.getfield 48, 3) := by decide +kernel
theorem dX10_movesTo_32 : decode cX10_movesTo 32 = .ok (.invokevirtual 292, 3) := by decide +kernel
theorem dX10_movesTo_35 : decode cX10_movesTo 35 = .ok (.ireturn, 1) := by decide +kernel
theorem dX10_movesTo_36 : decode cX10_movesTo 36 = .ok (.aload_n 0, 1) := by decide +kernel
theorem dX10_movesTo_37 : decode cX10_movesTo 37 = .ok (.getfield 52, 3) := by decide +kernel
theorem dX10_movesTo_40 : decode cX10_movesTo 40 = .ok (.aload_n 0, 1) := by decide +kernel
theorem dX10_movesTo_41 : decode cX10_movesTo 41 = .ok (.getfield 10, 3) := by decide +kernel
theorem dX10_movesTo_44 : decode cX10_movesTo 44 = .ok (.aload_n 0, 1) := by decide +kernel
theorem dX10_movesTo_45 : decode cX10_movesTo 45 = .ok (.getfield 35, 3) := by decide +kernel
theorem dX10_movesTo_48 : decode cX10_movesTo 48 = .ok (.getfield 259, 3) := by decide +kernel
theorem dX10_movesTo_51 : decode cX10_movesTo 51 = .ok (.iload_n 1, 1) := by decide +kernel
theorem dX10_movesTo_52 : decode cX10_movesTo 52 = .ok (.iconst 1, 1) := by decide +kernel
theorem dX10_movesTo_53 : decode cX10_movesTo 53 = .ok (.isub, 1) := by decide +kernel
theorem dX10_movesTo_54 : decode cX10_movesTo 54 = .ok (.iaload, 1) := by decide +kernel
theorem dX10_movesTo_55 : decode cX10_movesTo 55 = .ok (.invokevirtual 288, 3) := by decide +kernel
theorem dX10_movesTo_58 : decode cX10_movesTo 58 = .ok (.aload_n 0, 1) := by decide +kernel
theorem dX10_movesTo_59 : decode cX10_movesTo 59 = .ok (.getfield 55, 3) := by decide +kernel
theorem dX10_movesTo_62 : decode cX10_movesTo 62 = .ok (.aload_n 0, 1) := by decide +kernel
theorem dX10_movesTo_63 : decode cX10_movesTo 63 = .ok (.getfield 52, 3) := by decide +kernel
theorem dX10_movesTo_66 : decode cX10_movesTo 66 = .ok (.invokevirtual 292, 3) := by decide +kernel
theorem dX10_movesTo_69 : decode cX10_movesTo 69 = .ok (.ireturn, 1) := by decide +kernel
set_option maxRecDepth 20000 in
theorem ggX10_movesOfAll_X10_movesTo : GoodIn wsX10_movesOfAll wsX10_movesTo := goodIn_r _ [7, 8, 9, 1, 10, 11, 12, 13, 14, 15, 16, 17, 18, 19, 20, 21, 22, 23, 24, 25, 26, 27, 28, 29, 30, 31, 32, 33, 34, 35, 36, 37, 38, 39, 40, 41, 42, 43, 44, 45, 46, 47, 48, 49, 50, 51, 52, 53, 54, 55, 56, 57, 58, 59, 60, 61, 62] (by decide +kernel) (by decide +kernel)
set_option maxRecDepth 20000 in
theorem gX10_movesOfAll_X10_movesTo : GoodIn wsX10_movesOfAll (wsV RX10 265 RX10 yX10_movesTo wsX10_movesTo) := goodIn_app (goodIn_of _ (by decide +kernel)) ggX10_movesOfAll_X10_movesTo
theorem dX10_movesOfAll_0 : decode cX10_movesOfAll 0 = .ok (.iconst 0, 1) := by decide +kernel
theorem dX10_movesOfAll_1 : decode cX10_movesOfAll 1 = .ok (.istore_n 1, 1) := by decide +kernel
theorem dX10_movesOfAll_2 : decode cX10_movesOfAll 2 = .ok (.iconst 0, 1) := by decide +kernel
theorem dX10_movesOfAll_3 : decode cX10_movesOfAll 3 = .ok (.istore_n 2, 1) := by decide +kernel
theorem dX10_movesOfAll_4 : decode cX10_movesOfAll 4 = .ok (.iload_n 2, 1) := by decide +kernel
theorem dX10_movesOfAll_5 : decode cX10_movesOfAll 5 = .ok (.aload_n 0, 1) := by decide +kernel
theorem dX10_movesOfAll_6 : decode cX10_movesOfAll 6 = .ok (.getfield 35, 3) := by decide +kernel
theorem dX10_movesOfAll_9 : decode cX10_movesOfAll 9 = .ok (.getfield 249, 3) := by decide +kernel
theorem dX10_movesOfAll_12 : decode cX10_movesOfAll 12 = .ok (.if_icmp .ge 17, 3) := by decide +kernel
theorem dX10_movesOfAll_15 : decode cX10_movesOfAll 15 = .ok (.iload_n 1, 1) := by decide +kernel
theorem dX10_movesOfAll_16 : decode cX10_movesOfAll 16 = .ok (.aload_n 0, 1) := by decide +kernel
theorem dX10_movesOfAll_17 : decode cX10_movesOfAll 17 = .ok (.iload_n 2, 1) := by decide +kernel
theorem dX10_movesOfAll_18 : decode cX10_movesOfAll 18 = .ok (.invokevirtual 265, 3) := by decide +kernel
theorem dX10_movesOfAll_21 : decode cX10_movesOfAll 21 = .ok (.iadd, 1) := by decide +kernel
theorem dX10_movesOfAll_22 : decode cX10_movesOfAll 22 = .ok (.istore_n 1, 1) := by decide +kernel
theorem dX10_movesOfAll_23 : decode cX10_movesOfAll 23 = .ok (.iinc 2 1, 3) := by decide +kernel
theorem dX10_movesOfAll_26 : decode cX10_movesOfAll 26 = .ok (.goto (-22), 3) := by decide +kernel
theorem dX10_movesOfAll_29 : decode cX10_movesOfAll 29 = .ok (.iload_n 1, 1) := by decide +kernel
theorem dX10_movesOfAll_30 : decode cX10_movesOfAll 30 = .ok (.ireturn, 1) := by decide +kernel
set_option maxRecDepth 20000 in
theorem ggX10_wasteOfAll_X4_wasteOf : GoodIn wsX10_wasteOfAll wsX4_wasteOf := goodIn_r _ [10, 11, 12, 13, 14, 9, 15, 16, 17, 18, 19, 20, 21, 40, 41, 42, 43, 44, 45, 46, 47] (by decide +kernel) (by decide +kernel)
set_option maxRecDepth 20000 in
theorem gX10_wasteOfAll_X4_wasteOf : GoodIn wsX10_wasteOfAll (wsV RX10 175 RX4 yX4_wasteOf wsX4_wasteOf) := goodIn_app (goodIn_of _ (by decide +kernel)) ggX10_wasteOfAll_X4_wasteOf
theorem dX10_wasteOfAll_0 : decode cX10_wasteOfAll 0 = .ok (.iconst 0, 1) := by decide +kernel
theorem dX10_wasteOfAll_1 : decode cX10_wasteOfAll 1 = .ok (.istore_n 1, 1) := by decide +kernel
theorem dX10_wasteOfAll_2 : decode cX10_wasteOfAll 2 = .ok (.iconst 0, 1) := by decide +kernel
theorem dX10_wasteOfAll_3 : decode cX10_wasteOfAll 3 = .ok (.istore_n 2, 1) := by decide +kernel
theorem dX10_wasteOfAll_4 : decode cX10_wasteOfAll 4 = .ok (.iload_n 2, 1) := by decide +kernel
theorem dX10_wasteOfAll_5 : decode cX10_wasteOfAll 5 = .ok (.aload_n 0, 1) := by decide +kernel
theorem dX10_wasteOfAll_6 : decode cX10_wasteOfAll 6 = .ok (.getfield 35, 3) := by decide +kernel
theorem dX10_wasteOfAll_9 : decode cX10_wasteOfAll 9 = .ok (.getfield 249, 3) := by decide +kernel
theorem dX10_wasteOfAll_12 : decode cX10_wasteOfAll 12 = .ok (.if_icmp .ge 38, 3) := by decide +kernel
theorem dX10_wasteOfAll_15 : decode cX10_wasteOfAll 15 = .ok (.iload_n 1, 1) := by decide +kernel
theorem dX10_wasteOfAll_16 : decode cX10_wasteOfAll 16 = .ok (.aload_n 0, 1) := by decide +kernel
theorem dX10_wasteOfAll_17 : decode cX10_wasteOfAll 17 = .ok (.getfield 35, 3) := by decide +kernel
theorem dX10_wasteOfAll_20 : decode cX10_wasteOfAll 20 = .ok (.getfield 262, 3) := by decide +kernel
theorem dX10_wasteOfAll_23 : decode cX10_wasteOfAll 23 = .ok (.iload_n 2, 1) := by decide +kernel
theorem dX10_wasteOfAll_24 : decode cX10_wasteOfAll 24 = .ok (.iaload, 1) := by decide +kernel
theorem dX10_wasteOfAll_25 : decode cX10_wasteOfAll 25 = .ok (.aload_n 0, 1) := by decide +kernel
theorem dX10_wasteOfAll_26 : decode cX10_wasteOfAll 26 = .ok (.getfield 10, 3) := by decide +kernel
theorem dX10_wasteOfAll_29 : decode cX10_wasteOfAll 29 = .ok (.aload_n 0, 1) := by decide +kernel
theorem dX10_wasteOfAll_30 : decode cX10_wasteOfAll 30 = .ok (.getfield 35, 3) := by decide +kernel
theorem dX10_wasteOfAll_33 : decode cX10_wasteOfAll 33 = .ok (.getfield 259, 3) := by decide +kernel
theorem dX10_wasteOfAll_36 : decode cX10_wasteOfAll 36 = .ok (.iload_n 2, 1) := by decide +kernel
theorem dX10_wasteOfAll_37 : decode cX10_wasteOfAll 37 = .ok (.iaload, 1) := by decide +kernel
theorem dX10_wasteOfAll_38 : decode cX10_wasteOfAll 38 = .ok (.invokevirtual 175, 3) := by decide +kernel
theorem dX10_wasteOfAll_41 : decode cX10_wasteOfAll 41 = .ok (.imul, 1) := by decide +kernel
theorem dX10_wasteOfAll_42 : decode cX10_wasteOfAll 42 = .ok (.iadd, 1) := by decide +kernel
theorem dX10_wasteOfAll_43 : decode cX10_wasteOfAll 43 = .ok (.istore_n 1, 1) := by decide +kernel
theorem dX10_wasteOfAll_44 : decode cX10_wasteOfAll 44 = .ok (.iinc 2 1, 3) := by decide +kernel
theorem dX10_wasteOfAll_47 : decode cX10_wasteOfAll 47 = .ok (.goto (-43), 3) := by decide +kernel
theorem dX10_wasteOfAll_50 : decode cX10_wasteOfAll 50 = .ok (.iload_n 1, 1) := by decide +kernel
theorem dX10_wasteOfAll_51 : decode cX10_wasteOfAll 51 = .ok (.ireturn, 1) := by decide +kernel
set_option maxRecDepth 20000 in
theorem ggX10_piecesMissing_X6_wanted : GoodIn wsX10_piecesMissing wsX6_wanted := goodIn_r _ [13, 14, 15, 16, 6, 7, 8, 52, 53, 54, 55, 56, 57] (by decide +kernel) (by decide +kernel)
set_option maxRecDepth 20000 in
theorem gX10_piecesMissing_X6_wanted : GoodIn wsX10_piecesMissing (wsV RX10 146 RX6 yX6_wanted wsX6_wanted) := goodIn_app (goodIn_of _ (by decide +kernel)) ggX10_piecesMissing_X6_wanted
set_option maxRecDepth 20000 in
theorem ggX10_piecesMissing_X8_piecesOf : GoodIn wsX10_piecesMissing wsX8_piecesOf := goodIn_r _ [21, 22, 23, 24, 25, 26, 27, 28, 58, 59, 60] (by decide +kernel) (by decide +kernel)
set_option maxRecDepth 20000 in
theorem gX10_piecesMissing_X8_piecesOf : GoodIn wsX10_piecesMissing (wsV RX10 152 RX8 yX8_piecesOf wsX8_piecesOf) := goodIn_app (goodIn_of _ (by decide +kernel)) ggX10_piecesMissing_X8_piecesOf
theorem dX10_piecesMissing_0 : decode cX10_piecesMissing 0 = .ok (.iconst 0, 1) := by decide +kernel
theorem dX10_piecesMissing_1 : decode cX10_piecesMissing 1 = .ok (.istore_n 1, 1) := by decide +kernel
theorem dX10_piecesMissing_2 : decode cX10_piecesMissing 2 = .ok (.iconst 0, 1) := by decide +kernel
theorem dX10_piecesMissing_3 : decode cX10_piecesMissing 3 = .ok (.istore_n 2, 1) := by decide +kernel
theorem dX10_piecesMissing_4 : decode cX10_piecesMissing 4 = .ok (.iload_n 2, 1) := by decide +kernel
theorem dX10_piecesMissing_5 : decode cX10_piecesMissing 5 = .ok (.aload_n 0, 1) := by decide +kernel
theorem dX10_piecesMissing_6 : decode cX10_piecesMissing 6 = .ok (.getfield 10, 3) := by decide +kernel
theorem dX10_piecesMissing_9 : decode cX10_piecesMissing 9 = .ok (.getfield 118, 3) := by decide +kernel
theorem dX10_piecesMissing_12 : decode cX10_piecesMissing 12 = .ok (.if_icmp .ge 33, 3) := by decide +kernel
theorem dX10_piecesMissing_15 : decode cX10_piecesMissing 15 = .ok (.iload_n 1, 1) := by decide +kernel
theorem dX10_piecesMissing_16 : decode cX10_piecesMissing 16 = .ok (.iconst 0, 1) := by decide +kernel
theorem dX10_piecesMissing_17 : decode cX10_piecesMissing 17 = .ok (.aload_n 0, 1) := by decide +kernel
theorem dX10_piecesMissing_18 : decode cX10_piecesMissing 18 = .ok (.getfield 28, 3) := by decide +kernel
theorem dX10_piecesMissing_21 : decode cX10_piecesMissing 21 = .ok (.iload_n 2, 1) := by decide +kernel
theorem dX10_piecesMissing_22 : decode cX10_piecesMissing 22 = .ok (.invokevirtual 146, 3) := by decide +kernel
theorem dX10_piecesMissing_25 : decode cX10_piecesMissing 25 = .ok (.aload_n 0, 1) := by decide +kernel
theorem dX10_piecesMissing_26 : decode cX10_piecesMissing 26 = .ok (.getfield 35, 3) := by decide +kernel
theorem dX10_piecesMissing_29 : decode cX10_piecesMissing 29 = .ok (.iload_n 2, 1) := by decide +kernel
theorem dX10_piecesMissing_30 : decode cX10_piecesMissing 30 = .ok (.invokevirtual 152, 3) := by decide +kernel
theorem dX10_piecesMissing_33 : decode cX10_piecesMissing 33 = .ok (.isub, 1) := by decide +kernel
theorem dX10_piecesMissing_34 : decode cX10_piecesMissing 34 = .ok (.invokestatic 387, 3) := by decide +kernel
theorem dX10_piecesMissing_37 : decode cX10_piecesMissing 37 = .ok (.iadd, 1) := by decide +kernel
theorem dX10_piecesMissing_38 : decode cX10_piecesMissing 38 = .ok (.istore_n 1, 1) := by decide +kernel
theorem dX10_piecesMissing_39 : decode cX10_piecesMissing 39 = .ok (.iinc 2 1, 3) := by decide +kernel
theorem dX10_piecesMissing_42 : decode cX10_piecesMissing 42 = .ok (.goto (-38), 3) := by decide +kernel
theorem dX10_piecesMissing_45 : decode cX10_piecesMissing 45 = .ok (.iload_n 1, 1) := by decide +kernel
theorem dX10_piecesMissing_46 : decode cX10_piecesMissing 46 = .ok (.ireturn, 1) := by decide +kernel
set_option maxRecDepth 20000 in
theorem ggX10_piecesBeyond_X8_piecesOf : GoodIn wsX10_piecesBeyond wsX8_piecesOf := goodIn_r _ [13, 14, 15, 16, 17, 18, 19, 20, 52, 53, 54] (by decide +kernel) (by decide +kernel)
set_option maxRecDepth 20000 in
theorem gX10_piecesBeyond_X8_piecesOf : GoodIn wsX10_piecesBeyond (wsV RX10 152 RX8 yX8_piecesOf wsX8_piecesOf) := goodIn_app (goodIn_of _ (by decide +kernel)) ggX10_piecesBeyond_X8_piecesOf
set_option maxRecDepth 20000 in
theorem ggX10_piecesBeyond_X6_wanted : GoodIn wsX10_piecesBeyond wsX6_wanted := goodIn_r _ [25, 26, 27, 28, 6, 7, 8, 55, 56, 57, 58, 59, 60] (by decide +kernel) (by decide +kernel)
set_option maxRecDepth 20000 in
theorem gX10_piecesBeyond_X6_wanted : GoodIn wsX10_piecesBeyond (wsV RX10 146 RX6 yX6_wanted wsX6_wanted) := goodIn_app (goodIn_of _ (by decide +kernel)) ggX10_piecesBeyond_X6_wanted
theorem dX10_piecesBeyond_0 : decode cX10_piecesBeyond 0 = .ok (.iconst 0, 1) := by decide +kernel
theorem dX10_piecesBeyond_1 : decode cX10_piecesBeyond 1 = .ok (.istore_n 1, 1) := by decide +kernel
theorem dX10_piecesBeyond_2 : decode cX10_piecesBeyond 2 = .ok (.iconst 0, 1) := by decide +kernel
theorem dX10_piecesBeyond_3 : decode cX10_piecesBeyond 3 = .ok (.istore_n 2, 1) := by decide +kernel
theorem dX10_piecesBeyond_4 : decode cX10_piecesBeyond 4 = .ok (.iload_n 2, 1) := by decide +kernel
theorem dX10_piecesBeyond_5 : decode cX10_piecesBeyond 5 = .ok (.aload_n 0, 1) := by decide +kernel
theorem dX10_piecesBeyond_6 : decode cX10_piecesBeyond 6 = .ok (.getfield 10, 3) := by decide +kernel
theorem dX10_piecesBeyond_9 : decode cX10_piecesBeyond 9 = .ok (.getfield 118, 3) := by decide +kernel
theorem dX10_piecesBeyond_12 : decode cX10_piecesBeyond 12 = .ok (.if_icmp .ge 33, 3) := by decide +kernel
theorem dX10_piecesBeyond_15 : decode cX10_piecesBeyond 15 = .ok (.iload_n 1, 1) := by decide +kernel
theorem dX10_piecesBeyond_16 : decode cX10_piecesBeyond 16 = .ok (.iconst 0, 1) := by decide +kernel
theorem dX10_piecesBeyond_17 : decode cX10_piecesBeyond 17 = .ok (.aload_n 0, 1) := by decide +kernel
theorem dX10_piecesBeyond_18 : decode cX10_piecesBeyond 18 = .ok (.getfield 35, 3) := by decide +kernel
theorem dX10_piecesBeyond_21 : decode cX10_piecesBeyond 21 = .ok (.iload_n 2, 1) := by decide +kernel
theorem dX10_piecesBeyond_22 : decode cX10_piecesBeyond 22 = .ok (.invokevirtual 152, 3) := by decide +kernel
theorem dX10_piecesBeyond_25 : decode cX10_piecesBeyond 25 = .ok (.aload_n 0, 1) := by decide +kernel
theorem dX10_piecesBeyond_26 : decode cX10_piecesBeyond 26 = .ok (.getfield 28, 3) := by decide +kernel
theorem dX10_piecesBeyond_29 : decode cX10_piecesBeyond 29 = .ok (.iload_n 2, 1) := by decide +kernel
theorem dX10_piecesBeyond_30 : decode cX10_piecesBeyond 30 = .ok (.invokevirtual 146, 3) := by decide +kernel
theorem dX10_piecesBeyond_33 : decode cX10_piecesBeyond 33 = .ok (.isub, 1) := by decide +kernel
theorem dX10_piecesBeyond_34 : decode cX10_piecesBeyond 34 = .ok (.invokestatic 387, 3) := by decide +kernel
theorem dX10_piecesBeyond_37 : decode cX10_piecesBeyond 37 = .ok (.iadd, 1) := by decide +kernel
theorem dX10_piecesBeyond_38 : decode cX10_piecesBeyond 38 = .ok (.istore_n 1, 1) := by decide +kernel
theorem dX10_piecesBeyond_39 : decode cX10_piecesBeyond 39 = .ok (.iinc 2 1, 3) := by decide +kernel
theorem dX10_piecesBeyond_42 : decode cX10_piecesBeyond 42 = .ok (.goto (-38), 3) := by decide +kernel
theorem dX10_piecesBeyond_45 : decode cX10_piecesBeyond 45 = .ok (.iload_n 1, 1) := by decide +kernel
theorem dX10_piecesBeyond_46 : decode cX10_piecesBeyond 46 = .ok (.ireturn, 1) := by decide +kernel
set_option maxRecDepth 20000 in
theorem ggX10_refusalOfCut_X8_isSlot : GoodIn wsX10_refusalOfCut wsX8_isSlot := goodIn_r _ [12, 13, 69, 70, 71] (by decide +kernel) (by decide +kernel)
set_option maxRecDepth 20000 in
theorem gX10_refusalOfCut_X8_isSlot : GoodIn wsX10_refusalOfCut (wsV RX10 252 RX8 yX8_isSlot wsX8_isSlot) := goodIn_app (goodIn_of _ (by decide +kernel)) ggX10_refusalOfCut_X8_isSlot
set_option maxRecDepth 20000 in
theorem ggX10_refusalOfCut_X9_isLot : GoodIn wsX10_refusalOfCut wsX9_isLot := goodIn_r _ [18, 19, 65, 66, 67, 68] (by decide +kernel) (by decide +kernel)
set_option maxRecDepth 20000 in
theorem gX10_refusalOfCut_X9_isLot : GoodIn wsX10_refusalOfCut (wsV RX10 313 RX9 yX9_isLot wsX9_isLot) := goodIn_app (goodIn_of _ (by decide +kernel)) ggX10_refusalOfCut_X9_isLot
set_option maxRecDepth 20000 in
theorem ggX10_refusalOfCut_X10_within : GoodIn wsX10_refusalOfCut wsX10_within := goodIn_r _ [23] (by decide +kernel) (by decide +kernel)
set_option maxRecDepth 20000 in
theorem gX10_refusalOfCut_X10_within : GoodIn wsX10_refusalOfCut (va_wsS RX10 94 yX10_within wsX10_within) := goodIn_app (goodIn_of _ (by decide +kernel)) ggX10_refusalOfCut_X10_within
set_option maxRecDepth 20000 in
theorem ggX10_refusalOfCut_X4_fitsFlawed : GoodIn wsX10_refusalOfCut wsX4_fitsFlawed := goodIn_r _ [28, 29, 30, 31, 32, 33, 34, 35, 36, 37, 38, 39, 40, 41, 42, 27, 43, 44, 45, 46, 47, 48, 49, 72, 73, 74, 75, 76, 77, 78, 79] (by decide +kernel) (by decide +kernel)
set_option maxRecDepth 20000 in
theorem gX10_refusalOfCut_X4_fitsFlawed : GoodIn wsX10_refusalOfCut (wsV RX10 181 RX4 yX4_fitsFlawed wsX4_fitsFlawed) := goodIn_app (goodIn_of _ (by decide +kernel)) ggX10_refusalOfCut_X4_fitsFlawed
theorem dX10_refusalOfCut_0 : decode cX10_refusalOfCut 0 = .ok (.aload_n 0, 1) := by decide +kernel
theorem dX10_refusalOfCut_1 : decode cX10_refusalOfCut 1 = .ok (.getfield 35, 3) := by decide +kernel
theorem dX10_refusalOfCut_4 : decode cX10_refusalOfCut 4 = .ok (.iload_n 1, 1) := by decide +kernel
theorem dX10_refusalOfCut_5 : decode cX10_refusalOfCut 5 = .ok (.invokevirtual 252, 3) := by decide +kernel
theorem dX10_refusalOfCut_8 : decode cX10_refusalOfCut 8 = .ok (.ifCond .ne 5, 3) := by decide +kernel
theorem dX10_refusalOfCut_11 : decode cX10_refusalOfCut 11 = .ok (.iconst 1, 1) := by decide +kernel
theorem dX10_refusalOfCut_12 : decode cX10_refusalOfCut 12 = .ok (.ireturn, 1) := by decide +kernel
theorem dX10_refusalOfCut_13 : decode cX10_refusalOfCut 13 = .ok (.aload_n 0, 1) := by decide +kernel
theorem dX10_refusalOfCut_14 : decode cX10_refusalOfCut 14 = .ok (.getfield 75, 3) := by decide +kernel
theorem dX10_refusalOfCut_17 : decode cX10_refusalOfCut 17 = .ok (.iload_n 2, 1) := by decide +kernel
theorem dX10_refusalOfCut_18 : decode cX10_refusalOfCut 18 = .ok (.invokevirtual 313, 3) := by decide +kernel
theorem dX10_refusalOfCut_21 : decode cX10_refusalOfCut 21 = .ok (.ifCond .ne 5, 3) := by decide +kernel
theorem dX10_refusalOfCut_24 : decode cX10_refusalOfCut 24 = .ok (.iconst 2, 1) := by decide +kernel
theorem dX10_refusalOfCut_25 : decode cX10_refusalOfCut 25 = .ok (.ireturn, 1) := by decide +kernel
theorem dX10_refusalOfCut_26 : decode cX10_refusalOfCut 26 = .ok (.aload_n 0, 1) := by decide +kernel
theorem dX10_refusalOfCut_27 : decode cX10_refusalOfCut 27 = .ok (.getfield 75, 3) := by decide +kernel
theorem dX10_refusalOfCut_30 : decode cX10_refusalOfCut 30 = .ok (.getfield 319, 3) := by decide +kernel
theorem dX10_refusalOfCut_33 : decode cX10_refusalOfCut 33 = .ok (.iload_n 2, 1) := by decide +kernel
theorem dX10_refusalOfCut_34 : decode cX10_refusalOfCut 34 = .ok (.iaload, 1) := by decide +kernel
theorem dX10_refusalOfCut_35 : decode cX10_refusalOfCut 35 = .ok (.iconst 1, 1) := by decide +kernel
theorem dX10_refusalOfCut_36 : decode cX10_refusalOfCut 36 = .ok (.if_icmp .ge 5, 3) := by decide +kernel
theorem dX10_refusalOfCut_39 : decode cX10_refusalOfCut 39 = .ok (.iconst 3, 1) := by decide +kernel
theorem dX10_refusalOfCut_40 : decode cX10_refusalOfCut 40 = .ok (.ireturn, 1) := by decide +kernel
theorem dX10_refusalOfCut_41 : decode cX10_refusalOfCut 41 = .ok (.iload_n 3, 1) := by decide +kernel
theorem dX10_refusalOfCut_42 : decode cX10_refusalOfCut 42 = .ok (.iconst 1, 1) := by decide +kernel
theorem dX10_refusalOfCut_43 : decode cX10_refusalOfCut 43 = .ok (.aload_n 0, 1) := by decide +kernel
theorem dX10_refusalOfCut_44 : decode cX10_refusalOfCut 44 = .ok (.getfield 75, 3) := by decide +kernel
theorem dX10_refusalOfCut_47 : decode cX10_refusalOfCut 47 = .ok (.getfield 316, 3) := by decide +kernel
theorem dX10_refusalOfCut_50 : decode cX10_refusalOfCut 50 = .ok (.iload_n 2, 1) := by decide +kernel
theorem dX10_refusalOfCut_51 : decode cX10_refusalOfCut 51 = .ok (.iaload, 1) := by decide +kernel
theorem dX10_refusalOfCut_52 : decode cX10_refusalOfCut 52 = .ok (.invokestatic 94, 3) := by decide +kernel
theorem dX10_refusalOfCut_55 : decode cX10_refusalOfCut 55 = .ok (.ifCond .ne 5, 3) := by decide +kernel
theorem dX10_refusalOfCut_58 : decode cX10_refusalOfCut 58 = .ok (.iconst 4, 1) := by decide +kernel
theorem dX10_refusalOfCut_59 : decode cX10_refusalOfCut 59 = .ok (.ireturn, 1) := by decide +kernel
theorem dX10_refusalOfCut_60 : decode cX10_refusalOfCut 60 = .ok (.aload_n 0, 1) := by decide +kernel
theorem dX10_refusalOfCut_61 : decode cX10_refusalOfCut 61 = .ok (.getfield 75, 3) := by decide +kernel
theorem dX10_refusalOfCut_64 : decode cX10_refusalOfCut 64 = .ok (.getfield 320, 3) := by decide +kernel
theorem dX10_refusalOfCut_67 : decode cX10_refusalOfCut 67 = .ok (.iload_n 2, 1) := by decide +kernel
theorem dX10_refusalOfCut_68 : decode cX10_refusalOfCut 68 = .ok (.baload, 1) := by decide +kernel
theorem dX10_refusalOfCut_69 : decode cX10_refusalOfCut 69 = .ok (.ifCond .eq 26, 3) := by decide +kernel
theorem dX10_refusalOfCut_72 : decode cX10_refusalOfCut 72 = .ok (.aload_n 0, 1) := by decide +kernel
theorem dX10_refusalOfCut_73 : decode cX10_refusalOfCut 73 = .ok (.getfield 10, 3) := by decide +kernel
theorem dX10_refusalOfCut_76 : decode cX10_refusalOfCut 76 = .ok (.aload_n 0, 1) := by decide +kernel
theorem dX10_refusalOfCut_77 : decode cX10_refusalOfCut 77 = .ok (.getfield 35, 3) := by decide +kernel
theorem dX10_refusalOfCut_80 : decode cX10_refusalOfCut 80 = .ok (.getfield 259, 3) := by decide +kernel
theorem dX10_refusalOfCut_83 : decode cX10_refusalOfCut 83 = .ok (.iload_n 1, 1) := by decide +kernel
theorem dX10_refusalOfCut_84 : decode cX10_refusalOfCut 84 = .ok (.iaload, 1) := by decide +kernel
theorem dX10_refusalOfCut_85 : decode cX10_refusalOfCut 85 = .ok (.invokevirtual 181, 3) := by decide +kernel
theorem dX10_refusalOfCut_88 : decode cX10_refusalOfCut 88 = .ok (.ifCond .ne 7, 3) := by decide +kernel
theorem dX10_refusalOfCut_91 : decode cX10_refusalOfCut 91 = .ok (.iconst 5, 1) := by decide +kernel
theorem dX10_refusalOfCut_92 : decode cX10_refusalOfCut 92 = .ok (.goto 4, 3) := by decide +kernel
theorem dX10_refusalOfCut_95 : decode cX10_refusalOfCut 95 = .ok (.iconst 0, 1) := by decide +kernel
theorem dX10_refusalOfCut_96 : decode cX10_refusalOfCut 96 = .ok (.ireturn, 1) := by decide +kernel
