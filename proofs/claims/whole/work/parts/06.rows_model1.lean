theorem dX11_init_0 : decode cX11_init 0 = .ok (.aload_n 0, 1) := by decide +kernel
theorem dX11_init_1 : decode cX11_init 1 = .ok (.invokespecial 1, 3) := by decide +kernel
theorem dX11_init_4 : decode cX11_init 4 = .ok (.aload_n 0, 1) := by decide +kernel
theorem dX11_init_5 : decode cX11_init 5 = .ok (.sipush 1000, 3) := by decide +kernel
theorem dX11_init_8 : decode cX11_init 8 = .ok (.putfield 7, 3) := by decide +kernel
theorem dX11_init_11 : decode cX11_init 11 = .ok (.aload_n 0, 1) := by decide +kernel
theorem dX11_init_12 : decode cX11_init 12 = .ok (.bipush 10, 2) := by decide +kernel
theorem dX11_init_14 : decode cX11_init 14 = .ok (.putfield 13, 3) := by decide +kernel
theorem dX11_init_17 : decode cX11_init 17 = .ok (.aload_n 0, 1) := by decide +kernel
theorem dX11_init_18 : decode cX11_init 18 = .ok (.bipush 6, 2) := by decide +kernel
theorem dX11_init_20 : decode cX11_init 20 = .ok (.newarray .int, 2) := by decide +kernel
theorem dX11_init_22 : decode cX11_init 22 = .ok (.putfield 16, 3) := by decide +kernel
theorem dX11_init_25 : decode cX11_init 25 = .ok (.aload_n 0, 1) := by decide +kernel
theorem dX11_init_26 : decode cX11_init 26 = .ok (.bipush 6, 2) := by decide +kernel
theorem dX11_init_28 : decode cX11_init 28 = .ok (.newarray .int, 2) := by decide +kernel
theorem dX11_init_30 : decode cX11_init 30 = .ok (.putfield 20, 3) := by decide +kernel
theorem dX11_init_33 : decode cX11_init 33 = .ok (.aload_n 0, 1) := by decide +kernel
theorem dX11_init_34 : decode cX11_init 34 = .ok (.bipush 6, 2) := by decide +kernel
theorem dX11_init_36 : decode cX11_init 36 = .ok (.newarray .int, 2) := by decide +kernel
theorem dX11_init_38 : decode cX11_init 38 = .ok (.putfield 23, 3) := by decide +kernel
theorem dX11_init_41 : decode cX11_init 41 = .ok (.aload_n 0, 1) := by decide +kernel
theorem dX11_init_42 : decode cX11_init 42 = .ok (.bipush 6, 2) := by decide +kernel
theorem dX11_init_44 : decode cX11_init 44 = .ok (.newarray .int, 2) := by decide +kernel
theorem dX11_init_46 : decode cX11_init 46 = .ok (.putfield 26, 3) := by decide +kernel
theorem dX11_init_49 : decode cX11_init 49 = .ok (.aload_n 0, 1) := by decide +kernel
theorem dX11_init_50 : decode cX11_init 50 = .ok (.iconst 1, 1) := by decide +kernel
theorem dX11_init_51 : decode cX11_init 51 = .ok (.putfield 29, 3) := by decide +kernel
theorem dX11_init_54 : decode cX11_init 54 = .ok (.aload_n 0, 1) := by decide +kernel
theorem dX11_init_55 : decode cX11_init 55 = .ok (.bipush 100, 2) := by decide +kernel
theorem dX11_init_57 : decode cX11_init 57 = .ok (.putfield 32, 3) := by decide +kernel
theorem dX11_init_60 : decode cX11_init 60 = .ok (.aload_n 0, 1) := by decide +kernel
theorem dX11_init_61 : decode cX11_init 61 = .ok (.sipush 3000, 3) := by decide +kernel
theorem dX11_init_64 : decode cX11_init 64 = .ok (.bipush 6, 2) := by decide +kernel
theorem dX11_init_66 : decode cX11_init 66 = .ok (.multianewarray 35 2, 4) := by decide +kernel
theorem dX11_init_70 : decode cX11_init 70 = .ok (.putfield 37, 3) := by decide +kernel
theorem dX11_init_73 : decode cX11_init 73 = .ok (.aload_n 0, 1) := by decide +kernel
theorem dX11_init_74 : decode cX11_init 74 = .ok (.bipush 6, 2) := by decide +kernel
theorem dX11_init_76 : decode cX11_init 76 = .ok (.newarray .int, 2) := by decide +kernel
theorem dX11_init_78 : decode cX11_init 78 = .ok (.putfield 40, 3) := by decide +kernel
theorem dX11_init_81 : decode cX11_init 81 = .ok (.aload_n 0, 1) := by decide +kernel
theorem dX11_init_82 : decode cX11_init 82 = .ok (.bipush 60, 2) := by decide +kernel
theorem dX11_init_84 : decode cX11_init 84 = .ok (.bipush 6, 2) := by decide +kernel
theorem dX11_init_86 : decode cX11_init 86 = .ok (.multianewarray 35 2, 4) := by decide +kernel
theorem dX11_init_90 : decode cX11_init 90 = .ok (.putfield 43, 3) := by decide +kernel
theorem dX11_init_93 : decode cX11_init 93 = .ok (.aload_n 0, 1) := by decide +kernel
theorem dX11_init_94 : decode cX11_init 94 = .ok (.bipush 60, 2) := by decide +kernel
theorem dX11_init_96 : decode cX11_init 96 = .ok (.newarray .int, 2) := by decide +kernel
theorem dX11_init_98 : decode cX11_init 98 = .ok (.putfield 46, 3) := by decide +kernel
theorem dX11_init_101 : decode cX11_init 101 = .ok (.aload_n 0, 1) := by decide +kernel
theorem dX11_init_102 : decode cX11_init 102 = .ok (.bipush 60, 2) := by decide +kernel
theorem dX11_init_104 : decode cX11_init 104 = .ok (.bipush 6, 2) := by decide +kernel
theorem dX11_init_106 : decode cX11_init 106 = .ok (.multianewarray 35 2, 4) := by decide +kernel
theorem dX11_init_110 : decode cX11_init 110 = .ok (.putfield 49, 3) := by decide +kernel
theorem dX11_init_113 : decode cX11_init 113 = .ok (.aload_n 0, 1) := by decide +kernel
theorem dX11_init_114 : decode cX11_init 114 = .ok (.bipush 60, 2) := by decide +kernel
theorem dX11_init_116 : decode cX11_init 116 = .ok (.newarray .int, 2) := by decide +kernel
theorem dX11_init_118 : decode cX11_init 118 = .ok (.putfield 52, 3) := by decide +kernel
theorem dX11_init_121 : decode cX11_init 121 = .ok (.aload_n 0, 1) := by decide +kernel
theorem dX11_init_122 : decode cX11_init 122 = .ok (.bipush 60, 2) := by decide +kernel
theorem dX11_init_124 : decode cX11_init 124 = .ok (.bipush 6, 2) := by decide +kernel
theorem dX11_init_126 : decode cX11_init 126 = .ok (.multianewarray 35 2, 4) := by decide +kernel
theorem dX11_init_130 : decode cX11_init 130 = .ok (.putfield 55, 3) := by decide +kernel
theorem dX11_init_133 : decode cX11_init 133 = .ok (.aload_n 0, 1) := by decide +kernel
theorem dX11_init_134 : decode cX11_init 134 = .ok (.bipush 60, 2) := by decide +kernel
theorem dX11_init_136 : decode cX11_init 136 = .ok (.newarray .int, 2) := by decide +kernel
theorem dX11_init_138 : decode cX11_init 138 = .ok (.putfield 58, 3) := by decide +kernel
theorem dX11_init_141 : decode cX11_init 141 = .ok (.aload_n 0, 1) := by decide +kernel
theorem dX11_init_142 : decode cX11_init 142 = .ok (.bipush 6, 2) := by decide +kernel
theorem dX11_init_144 : decode cX11_init 144 = .ok (.newarray .int, 2) := by decide +kernel
theorem dX11_init_146 : decode cX11_init 146 = .ok (.putfield 61, 3) := by decide +kernel
theorem dX11_init_149 : decode cX11_init 149 = .ok (.aload_n 0, 1) := by decide +kernel
theorem dX11_init_150 : decode cX11_init 150 = .ok (.bipush 6, 2) := by decide +kernel
theorem dX11_init_152 : decode cX11_init 152 = .ok (.newarray .int, 2) := by decide +kernel
theorem dX11_init_154 : decode cX11_init 154 = .ok (.putfield 64, 3) := by decide +kernel
theorem dX11_init_157 : decode cX11_init 157 = .ok (.aload_n 0, 1) := by decide +kernel
theorem dX11_init_158 : decode cX11_init 158 = .ok (.sipush 5000, 3) := by decide +kernel
theorem dX11_init_161 : decode cX11_init 161 = .ok (.newarray .int, 2) := by decide +kernel
theorem dX11_init_163 : decode cX11_init 163 = .ok (.putfield 67, 3) := by decide +kernel
theorem dX11_init_166 : decode cX11_init 166 = .ok (.aload_n 0, 1) := by decide +kernel
theorem dX11_init_167 : decode cX11_init 167 = .ok (.bipush 6, 2) := by decide +kernel
theorem dX11_init_169 : decode cX11_init 169 = .ok (.newarray .int, 2) := by decide +kernel
theorem dX11_init_171 : decode cX11_init 171 = .ok (.putfield 70, 3) := by decide +kernel
theorem dX11_init_174 : decode cX11_init 174 = .ok (.aload_n 0, 1) := by decide +kernel
theorem dX11_init_175 : decode cX11_init 175 = .ok (.bipush 21, 2) := by decide +kernel
theorem dX11_init_177 : decode cX11_init 177 = .ok (.newarray .int, 2) := by decide +kernel
theorem dX11_init_179 : decode cX11_init 179 = .ok (.putfield 73, 3) := by decide +kernel
theorem dX11_init_182 : decode cX11_init 182 = .ok (.aload_n 0, 1) := by decide +kernel
theorem dX11_init_183 : decode cX11_init 183 = .ok (.bipush 21, 2) := by decide +kernel
theorem dX11_init_185 : decode cX11_init 185 = .ok (.newarray .int, 2) := by decide +kernel
theorem dX11_init_187 : decode cX11_init 187 = .ok (.putfield 76, 3) := by decide +kernel
theorem dX11_init_190 : decode cX11_init 190 = .ok (.aload_n 0, 1) := by decide +kernel
theorem dX11_init_191 : decode cX11_init 191 = .ok (.bipush 21, 2) := by decide +kernel
theorem dX11_init_193 : decode cX11_init 193 = .ok (.newarray .int, 2) := by decide +kernel
theorem dX11_init_195 : decode cX11_init 195 = .ok (.putfield 79, 3) := by decide +kernel
theorem dX11_init_198 : decode cX11_init 198 = .ok (.aload_n 0, 1) := by decide +kernel
theorem dX11_init_199 : decode cX11_init 199 = .ok (.sipush 256, 3) := by decide +kernel
theorem dX11_init_202 : decode cX11_init 202 = .ok (.bipush 9, 2) := by decide +kernel
theorem dX11_init_204 : decode cX11_init 204 = .ok (.multianewarray 35 2, 4) := by decide +kernel
theorem dX11_init_208 : decode cX11_init 208 = .ok (.putfield 82, 3) := by decide +kernel
theorem dX11_init_211 : decode cX11_init 211 = .ok (.aload_n 0, 1) := by decide +kernel
theorem dX11_init_212 : decode cX11_init 212 = .ok (.bipush 8, 2) := by decide +kernel
theorem dX11_init_214 : decode cX11_init 214 = .ok (.newarray .int, 2) := by decide +kernel
theorem dX11_init_216 : decode cX11_init 216 = .ok (.putfield 85, 3) := by decide +kernel
theorem dX11_init_219 : decode cX11_init 219 = .ok (.aload_n 0, 1) := by decide +kernel
theorem dX11_init_220 : decode cX11_init 220 = .ok (.bipush 8, 2) := by decide +kernel
theorem dX11_init_222 : decode cX11_init 222 = .ok (.newarray .int, 2) := by decide +kernel
theorem dX11_init_224 : decode cX11_init 224 = .ok (.putfield 88, 3) := by decide +kernel
theorem dX11_init_227 : decode cX11_init 227 = .ok (.aload_n 0, 1) := by decide +kernel
theorem dX11_init_228 : decode cX11_init 228 = .ok (.bipush 8, 2) := by decide +kernel
theorem dX11_init_230 : decode cX11_init 230 = .ok (.newarray .boolean, 2) := by decide +kernel
theorem dX11_init_232 : decode cX11_init 232 = .ok (.putfield 91, 3) := by decide +kernel
theorem dX11_init_235 : decode cX11_init 235 = .ok (.aload_n 0, 1) := by decide +kernel
theorem dX11_init_236 : decode cX11_init 236 = .ok (.bipush 7, 2) := by decide +kernel
theorem dX11_init_238 : decode cX11_init 238 = .ok (.newarray .long, 2) := by decide +kernel
theorem dX11_init_240 : decode cX11_init 240 = .ok (.putfield 95, 3) := by decide +kernel
theorem dX11_init_243 : decode cX11_init 243 = .ok (.return_, 1) := by decide +kernel
theorem dX11_thrown_0 : decode cX11_thrown 0 = .ok (.aload_n 0, 1) := by decide +kernel
theorem dX11_thrown_1 : decode cX11_thrown 1 = .ok (.getfield 99, 3) := by decide +kernel
theorem dX11_thrown_4 : decode cX11_thrown 4 = .ok (.ireturn, 1) := by decide +kernel
theorem dX11_in_0 : decode cX11_in 0 = .ok (.iload_n 0, 1) := by decide +kernel
theorem dX11_in_1 : decode cX11_in 1 = .ok (.iload_n 1, 1) := by decide +kernel
theorem dX11_in_2 : decode cX11_in 2 = .ok (.if_icmp .lt 12, 3) := by decide +kernel
theorem dX11_in_5 : decode cX11_in 5 = .ok (.iload_n 0, 1) := by decide +kernel
theorem dX11_in_6 : decode cX11_in 6 = .ok (.iload_n 2, 1) := by decide +kernel
theorem dX11_in_7 : decode cX11_in 7 = .ok (.if_icmp .gt 7, 3) := by decide +kernel
theorem dX11_in_10 : decode cX11_in 10 = .ok (.iconst 1, 1) := by decide +kernel
theorem dX11_in_11 : decode cX11_in 11 = .ok (.goto 4, 3) := by decide +kernel
theorem dX11_in_14 : decode cX11_in 14 = .ok (.iconst 0, 1) := by decide +kernel
theorem dX11_in_15 : decode cX11_in 15 = .ok (.ireturn, 1) := by decide +kernel
theorem dX11_wanted_0 : decode cX11_wanted 0 = .ok (.iconst 0, 1) := by decide +kernel
theorem dX11_wanted_1 : decode cX11_wanted 1 = .ok (.aload_n 0, 1) := by decide +kernel
theorem dX11_wanted_2 : decode cX11_wanted 2 = .ok (.getfield 20, 3) := by decide +kernel
theorem dX11_wanted_5 : decode cX11_wanted 5 = .ok (.iload_n 1, 1) := by decide +kernel
theorem dX11_wanted_6 : decode cX11_wanted 6 = .ok (.iaload, 1) := by decide +kernel
theorem dX11_wanted_7 : decode cX11_wanted 7 = .ok (.aload_n 0, 1) := by decide +kernel
theorem dX11_wanted_8 : decode cX11_wanted 8 = .ok (.getfield 23, 3) := by decide +kernel
theorem dX11_wanted_11 : decode cX11_wanted 11 = .ok (.iload_n 1, 1) := by decide +kernel
theorem dX11_wanted_12 : decode cX11_wanted 12 = .ok (.iaload, 1) := by decide +kernel
theorem dX11_wanted_13 : decode cX11_wanted 13 = .ok (.isub, 1) := by decide +kernel
theorem dX11_wanted_14 : decode cX11_wanted 14 = .ok (.invokestatic 102, 3) := by decide +kernel
theorem dX11_wanted_17 : decode cX11_wanted 17 = .ok (.ireturn, 1) := by decide +kernel
set_option maxRecDepth 20000 in
theorem ggX11_count_X11_count_ : GoodIn wsX11_count wsX11_count_ := goodIn_r _ [10, 2, 11, 5, 12, 13, 14, 15, 16, 17, 18, 6, 7, 8, 9, 19, 20, 21, 22, 23, 24, 25, 26, 27, 28, 29, 30, 31, 32, 33, 34, 35, 36, 37, 38, 39, 40, 41, 42, 43, 44, 45, 46, 47, 48, 49, 50, 51, 52, 53, 54, 55, 56, 57, 58, 59, 60] (by decide +kernel) (by decide +kernel)
set_option maxRecDepth 20000 in
theorem gX11_count_X11_count_ : GoodIn wsX11_count (wsV RX11 118 RX11 yX11_count_ wsX11_count_) := goodIn_app (goodIn_of _ (by decide +kernel)) ggX11_count_X11_count_
theorem dX11_count_0 : decode cX11_count 0 = .ok (.aload_n 0, 1) := by decide +kernel
theorem dX11_count_1 : decode cX11_count 1 = .ok (.getfield 108, 3) := by decide +kernel
theorem dX11_count_4 : decode cX11_count 4 = .ok (.ifCond .eq 4, 3) := by decide +kernel
theorem dX11_count_7 : decode cX11_count 7 = .ok (.return_, 1) := by decide +kernel
theorem dX11_count_8 : decode cX11_count 8 = .ok (.aload_n 0, 1) := by decide +kernel
theorem dX11_count_9 : decode cX11_count 9 = .ok (.iconst 1, 1) := by decide +kernel
theorem dX11_count_10 : decode cX11_count 10 = .ok (.putfield 108, 3) := by decide +kernel
theorem dX11_count_13 : decode cX11_count 13 = .ok (.aload_n 0, 1) := by decide +kernel
theorem dX11_count_14 : decode cX11_count 14 = .ok (.iconst 0, 1) := by decide +kernel
theorem dX11_count_15 : decode cX11_count 15 = .ok (.putfield 112, 3) := by decide +kernel
theorem dX11_count_18 : decode cX11_count 18 = .ok (.aload_n 0, 1) := by decide +kernel
theorem dX11_count_19 : decode cX11_count 19 = .ok (.iconst 0, 1) := by decide +kernel
theorem dX11_count_20 : decode cX11_count 20 = .ok (.aload_n 0, 1) := by decide +kernel
theorem dX11_count_21 : decode cX11_count 21 = .ok (.getfield 7, 3) := by decide +kernel
theorem dX11_count_24 : decode cX11_count 24 = .ok (.iconst 2, 1) := by decide +kernel
theorem dX11_count_25 : decode cX11_count 25 = .ok (.aload_n 0, 1) := by decide +kernel
theorem dX11_count_26 : decode cX11_count 26 = .ok (.getfield 115, 3) := by decide +kernel
theorem dX11_count_29 : decode cX11_count 29 = .ok (.imul, 1) := by decide +kernel
theorem dX11_count_30 : decode cX11_count 30 = .ok (.isub, 1) := by decide +kernel
theorem dX11_count_31 : decode cX11_count 31 = .ok (.aload_n 0, 1) := by decide +kernel
theorem dX11_count_32 : decode cX11_count 32 = .ok (.getfield 13, 3) := by decide +kernel
theorem dX11_count_35 : decode cX11_count 35 = .ok (.invokevirtual 118, 3) := by decide +kernel
theorem dX11_count_38 : decode cX11_count 38 = .ok (.return_, 1) := by decide +kernel
set_option maxRecDepth 20000 in
theorem ggX11_count__X11_count_ : GoodIn wsX11_count_ wsX11_count_ := goodIn_r _ [0, 1, 2, 3, 4, 5, 6, 7, 8, 9, 10, 11, 12, 13, 14, 15, 16, 17, 18, 19, 20, 21, 22, 23, 24, 25, 26, 27, 28, 29, 30, 31, 32, 33, 34, 35, 36, 37, 38, 39, 40, 41, 42, 43, 44, 45, 46, 47, 48, 49, 50, 51, 52, 53, 54, 55, 56] (by decide +kernel) (by decide +kernel)
set_option maxRecDepth 20000 in
theorem gX11_count__X11_count_ : GoodIn wsX11_count_ (wsV RX11 118 RX11 yX11_count_ wsX11_count_) := goodIn_app (goodIn_of _ (by decide +kernel)) ggX11_count__X11_count_
theorem dX11_count__0 : decode cX11_count_ 0 = .ok (.aload_n 0, 1) := by decide +kernel
theorem dX11_count__1 : decode cX11_count_ 1 = .ok (.getfield 112, 3) := by decide +kernel
theorem dX11_count__4 : decode cX11_count_ 4 = .ok (.sipush 3000, 3) := by decide +kernel
theorem dX11_count__7 : decode cX11_count_ 7 = .ok (.if_icmp .le 4, 3) := by decide +kernel
theorem dX11_count__10 : decode cX11_count_ 10 = .ok (.return_, 1) := by decide +kernel
theorem dX11_count__11 : decode cX11_count_ 11 = .ok (.iload_n 1, 1) := by decide +kernel
theorem dX11_count__12 : decode cX11_count_ 12 = .ok (.aload_n 0, 1) := by decide +kernel
theorem dX11_count__13 : decode cX11_count_ 13 = .ok (.getfield 122, 3) := by decide +kernel
theorem dX11_count__16 : decode cX11_count_ 16 = .ok (.if_icmp .ne 81, 3) := by decide +kernel
theorem dX11_count__19 : decode cX11_count_ 19 = .ok (.iload_n 3, 1) := by decide +kernel
theorem dX11_count__20 : decode cX11_count_ 20 = .ok (.aload_n 0, 1) := by decide +kernel
theorem dX11_count__21 : decode cX11_count_ 21 = .ok (.getfield 13, 3) := by decide +kernel
theorem dX11_count__24 : decode cX11_count_ 24 = .ok (.if_icmp .ne 4, 3) := by decide +kernel
theorem dX11_count__27 : decode cX11_count_ 27 = .ok (.return_, 1) := by decide +kernel
theorem dX11_count__28 : decode cX11_count_ 28 = .ok (.iconst 0, 1) := by decide +kernel
theorem dX11_count__29 : decode cX11_count_ 29 = .ok (.istore 4, 2) := by decide +kernel
theorem dX11_count__31 : decode cX11_count_ 31 = .ok (.iload 4, 2) := by decide +kernel
theorem dX11_count__33 : decode cX11_count_ 33 = .ok (.bipush 6, 2) := by decide +kernel
theorem dX11_count__35 : decode cX11_count_ 35 = .ok (.if_icmp .ge 51, 3) := by decide +kernel
theorem dX11_count__38 : decode cX11_count_ 38 = .ok (.aload_n 0, 1) := by decide +kernel
theorem dX11_count__39 : decode cX11_count_ 39 = .ok (.getfield 112, 3) := by decide +kernel
theorem dX11_count__42 : decode cX11_count_ 42 = .ok (.sipush 3000, 3) := by decide +kernel
theorem dX11_count__45 : decode cX11_count_ 45 = .ok (.if_icmp .ge 41, 3) := by decide +kernel
theorem dX11_count__48 : decode cX11_count_ 48 = .ok (.aload_n 0, 1) := by decide +kernel
theorem dX11_count__49 : decode cX11_count_ 49 = .ok (.getfield 37, 3) := by decide +kernel
theorem dX11_count__52 : decode cX11_count_ 52 = .ok (.aload_n 0, 1) := by decide +kernel
theorem dX11_count__53 : decode cX11_count_ 53 = .ok (.getfield 112, 3) := by decide +kernel
theorem dX11_count__56 : decode cX11_count_ 56 = .ok (.aaload, 1) := by decide +kernel
theorem dX11_count__57 : decode cX11_count_ 57 = .ok (.iload 4, 2) := by decide +kernel
theorem dX11_count__59 : decode cX11_count_ 59 = .ok (.iload 4, 2) := by decide +kernel
theorem dX11_count__61 : decode cX11_count_ 61 = .ok (.aload_n 0, 1) := by decide +kernel
theorem dX11_count__62 : decode cX11_count_ 62 = .ok (.getfield 122, 3) := by decide +kernel
theorem dX11_count__65 : decode cX11_count_ 65 = .ok (.if_icmp .ge 13, 3) := by decide +kernel
theorem dX11_count__68 : decode cX11_count_ 68 = .ok (.aload_n 0, 1) := by decide +kernel
theorem dX11_count__69 : decode cX11_count_ 69 = .ok (.getfield 40, 3) := by decide +kernel
theorem dX11_count__72 : decode cX11_count_ 72 = .ok (.iload 4, 2) := by decide +kernel
theorem dX11_count__74 : decode cX11_count_ 74 = .ok (.iaload, 1) := by decide +kernel
theorem dX11_count__75 : decode cX11_count_ 75 = .ok (.goto 4, 3) := by decide +kernel
theorem dX11_count__78 : decode cX11_count_ 78 = .ok (.iconst 0, 1) := by decide +kernel
theorem dX11_count__79 : decode cX11_count_ 79 = .ok (.iastore, 1) := by decide +kernel
theorem dX11_count__80 : decode cX11_count_ 80 = .ok (.iinc 4 1, 3) := by decide +kernel
theorem dX11_count__83 : decode cX11_count_ 83 = .ok (.goto (-52), 3) := by decide +kernel
theorem dX11_count__86 : decode cX11_count_ 86 = .ok (.aload_n 0, 1) := by decide +kernel
theorem dX11_count__87 : decode cX11_count_ 87 = .ok (.dup, 1) := by decide +kernel
theorem dX11_count__88 : decode cX11_count_ 88 = .ok (.getfield 112, 3) := by decide +kernel
theorem dX11_count__91 : decode cX11_count_ 91 = .ok (.iconst 1, 1) := by decide +kernel
theorem dX11_count__92 : decode cX11_count_ 92 = .ok (.iadd, 1) := by decide +kernel
theorem dX11_count__93 : decode cX11_count_ 93 = .ok (.putfield 112, 3) := by decide +kernel
theorem dX11_count__96 : decode cX11_count_ 96 = .ok (.return_, 1) := by decide +kernel
theorem dX11_count__97 : decode cX11_count_ 97 = .ok (.iload_n 3, 1) := by decide +kernel
theorem dX11_count__98 : decode cX11_count_ 98 = .ok (.iload_n 2, 1) := by decide +kernel
theorem dX11_count__99 : decode cX11_count_ 99 = .ok (.aload_n 0, 1) := by decide +kernel
theorem dX11_count__100 : decode cX11_count_ 100 = .ok (.getfield 16, 3) := by decide +kernel
theorem dX11_count__103 : decode cX11_count_ 103 = .ok (.iload_n 1, 1) := by decide +kernel
theorem dX11_count__104 : decode cX11_count_ 104 = .ok (.iaload, 1) := by decide +kernel
theorem dX11_count__105 : decode cX11_count_ 105 = .ok (.idiv, 1) := by decide +kernel
theorem dX11_count__106 : decode cX11_count_ 106 = .ok (.invokestatic 125, 3) := by decide +kernel
theorem dX11_count__109 : decode cX11_count_ 109 = .ok (.istore 4, 2) := by decide +kernel
theorem dX11_count__111 : decode cX11_count_ 111 = .ok (.iload 4, 2) := by decide +kernel
theorem dX11_count__113 : decode cX11_count_ 113 = .ok (.ifCond .lt 39, 3) := by decide +kernel
theorem dX11_count__116 : decode cX11_count_ 116 = .ok (.aload_n 0, 1) := by decide +kernel
theorem dX11_count__117 : decode cX11_count_ 117 = .ok (.getfield 40, 3) := by decide +kernel
theorem dX11_count__120 : decode cX11_count_ 120 = .ok (.iload_n 1, 1) := by decide +kernel
theorem dX11_count__121 : decode cX11_count_ 121 = .ok (.iload 4, 2) := by decide +kernel
theorem dX11_count__123 : decode cX11_count_ 123 = .ok (.iastore, 1) := by decide +kernel
theorem dX11_count__124 : decode cX11_count_ 124 = .ok (.aload_n 0, 1) := by decide +kernel
theorem dX11_count__125 : decode cX11_count_ 125 = .ok (.iload_n 1, 1) := by decide +kernel
theorem dX11_count__126 : decode cX11_count_ 126 = .ok (.iconst 1, 1) := by decide +kernel
theorem dX11_count__127 : decode cX11_count_ 127 = .ok (.iadd, 1) := by decide +kernel
theorem dX11_count__128 : decode cX11_count_ 128 = .ok (.iload_n 2, 1) := by decide +kernel
theorem dX11_count__129 : decode cX11_count_ 129 = .ok (.iload 4, 2) := by decide +kernel
theorem dX11_count__131 : decode cX11_count_ 131 = .ok (.aload_n 0, 1) := by decide +kernel
theorem dX11_count__132 : decode cX11_count_ 132 = .ok (.getfield 16, 3) := by decide +kernel
theorem dX11_count__135 : decode cX11_count_ 135 = .ok (.iload_n 1, 1) := by decide +kernel
theorem dX11_count__136 : decode cX11_count_ 136 = .ok (.iaload, 1) := by decide +kernel
theorem dX11_count__137 : decode cX11_count_ 137 = .ok (.imul, 1) := by decide +kernel
theorem dX11_count__138 : decode cX11_count_ 138 = .ok (.isub, 1) := by decide +kernel
theorem dX11_count__139 : decode cX11_count_ 139 = .ok (.iload_n 3, 1) := by decide +kernel
theorem dX11_count__140 : decode cX11_count_ 140 = .ok (.iload 4, 2) := by decide +kernel
theorem dX11_count__142 : decode cX11_count_ 142 = .ok (.isub, 1) := by decide +kernel
theorem dX11_count__143 : decode cX11_count_ 143 = .ok (.invokevirtual 118, 3) := by decide +kernel
theorem dX11_count__146 : decode cX11_count_ 146 = .ok (.iinc 4 (-1), 3) := by decide +kernel
theorem dX11_count__149 : decode cX11_count_ 149 = .ok (.goto (-38), 3) := by decide +kernel
theorem dX11_count__152 : decode cX11_count_ 152 = .ok (.return_, 1) := by decide +kernel
set_option maxRecDepth 20000 in
theorem ggX11_isNumbered_X11_count : GoodIn wsX11_isNumbered wsX11_count := goodIn_r _ [6, 7, 1, 8, 9, 10, 11, 12, 13, 5, 14, 15, 16, 17, 18, 19, 20, 21, 22, 23, 24, 25, 26, 27, 28, 29, 30, 31, 32, 33, 34, 35, 36, 37, 38, 39, 40, 41, 42, 43, 44, 45, 46, 47, 48, 49, 50, 51, 52, 53, 54, 55, 56, 57, 58, 59, 60, 61, 62, 63, 64] (by decide +kernel) (by decide +kernel)
set_option maxRecDepth 20000 in
theorem gX11_isNumbered_X11_count : GoodIn wsX11_isNumbered (wsV RX11 128 RX11 yX11_count wsX11_count) := goodIn_app (goodIn_of _ (by decide +kernel)) ggX11_isNumbered_X11_count
theorem dX11_isNumbered_0 : decode cX11_isNumbered 0 = .ok (.aload_n 0, 1) := by decide +kernel
theorem dX11_isNumbered_1 : decode cX11_isNumbered 1 = .ok (.invokevirtual 128, 3) := by decide +kernel
theorem dX11_isNumbered_4 : decode cX11_isNumbered 4 = .ok (.aload_n 0, 1) := by decide +kernel
theorem dX11_isNumbered_5 : decode cX11_isNumbered 5 = .ok (.getfield 112, 3) := by decide +kernel
theorem dX11_isNumbered_8 : decode cX11_isNumbered 8 = .ok (.sipush 3000, 3) := by decide +kernel
theorem dX11_isNumbered_11 : decode cX11_isNumbered 11 = .ok (.if_icmp .gt 7, 3) := by decide +kernel
theorem dX11_isNumbered_14 : decode cX11_isNumbered 14 = .ok (.iconst 1, 1) := by decide +kernel
theorem dX11_isNumbered_15 : decode cX11_isNumbered 15 = .ok (.goto 4, 3) := by decide +kernel
theorem dX11_isNumbered_18 : decode cX11_isNumbered 18 = .ok (.iconst 0, 1) := by decide +kernel
theorem dX11_isNumbered_19 : decode cX11_isNumbered 19 = .ok (.ireturn, 1) := by decide +kernel
set_option maxRecDepth 20000 in
theorem ggX11_isPattern_X11_isNumbered : GoodIn wsX11_isPattern wsX11_isNumbered := goodIn_r _ [6, 1, 7, 8, 9, 5, 10, 11, 12, 13, 14, 15, 16, 17, 18, 19, 20, 21, 22, 23, 24, 25, 26, 30, 31, 32, 33, 34, 35, 36, 37, 38, 39, 40, 41, 42, 43, 44, 45, 46, 47, 48, 49, 50, 51, 52, 53, 54, 55, 56, 57, 58, 59, 60, 61, 62, 63, 64, 65, 66, 67, 68, 69, 70, 71] (by decide +kernel) (by decide +kernel)
set_option maxRecDepth 20000 in
theorem gX11_isPattern_X11_isNumbered : GoodIn wsX11_isPattern (wsV RX11 130 RX11 yX11_isNumbered wsX11_isNumbered) := goodIn_app (goodIn_of _ (by decide +kernel)) ggX11_isPattern_X11_isNumbered
set_option maxRecDepth 20000 in
theorem ggX11_isPattern_X11_in : GoodIn wsX11_isPattern wsX11_in := goodIn_r _ [29] (by decide +kernel) (by decide +kernel)
set_option maxRecDepth 20000 in
theorem gX11_isPattern_X11_in : GoodIn wsX11_isPattern (va_wsS RX11 134 yX11_in wsX11_in) := goodIn_app (goodIn_of _ (by decide +kernel)) ggX11_isPattern_X11_in
theorem dX11_isPattern_0 : decode cX11_isPattern 0 = .ok (.aload_n 0, 1) := by decide +kernel
theorem dX11_isPattern_1 : decode cX11_isPattern 1 = .ok (.invokevirtual 130, 3) := by decide +kernel
theorem dX11_isPattern_4 : decode cX11_isPattern 4 = .ok (.ifCond .eq 21, 3) := by decide +kernel
theorem dX11_isPattern_7 : decode cX11_isPattern 7 = .ok (.iload_n 1, 1) := by decide +kernel
theorem dX11_isPattern_8 : decode cX11_isPattern 8 = .ok (.iconst 0, 1) := by decide +kernel
theorem dX11_isPattern_9 : decode cX11_isPattern 9 = .ok (.aload_n 0, 1) := by decide +kernel
theorem dX11_isPattern_10 : decode cX11_isPattern 10 = .ok (.getfield 112, 3) := by decide +kernel
theorem dX11_isPattern_13 : decode cX11_isPattern 13 = .ok (.iconst 1, 1) := by decide +kernel
theorem dX11_isPattern_14 : decode cX11_isPattern 14 = .ok (.isub, 1) := by decide +kernel
theorem dX11_isPattern_15 : decode cX11_isPattern 15 = .ok (.invokestatic 134, 3) := by decide +kernel
theorem dX11_isPattern_18 : decode cX11_isPattern 18 = .ok (.ifCond .eq 7, 3) := by decide +kernel
theorem dX11_isPattern_21 : decode cX11_isPattern 21 = .ok (.iconst 1, 1) := by decide +kernel
theorem dX11_isPattern_22 : decode cX11_isPattern 22 = .ok (.goto 4, 3) := by decide +kernel
theorem dX11_isPattern_25 : decode cX11_isPattern 25 = .ok (.iconst 0, 1) := by decide +kernel
theorem dX11_isPattern_26 : decode cX11_isPattern 26 = .ok (.ireturn, 1) := by decide +kernel
theorem dX11_sumOf_0 : decode cX11_sumOf 0 = .ok (.iconst 0, 1) := by decide +kernel
theorem dX11_sumOf_1 : decode cX11_sumOf 1 = .ok (.istore_n 2, 1) := by decide +kernel
theorem dX11_sumOf_2 : decode cX11_sumOf 2 = .ok (.iconst 0, 1) := by decide +kernel
theorem dX11_sumOf_3 : decode cX11_sumOf 3 = .ok (.istore_n 3, 1) := by decide +kernel
theorem dX11_sumOf_4 : decode cX11_sumOf 4 = .ok (.iload_n 3, 1) := by decide +kernel
theorem dX11_sumOf_5 : decode cX11_sumOf 5 = .ok (.aload_n 0, 1) := by decide +kernel
theorem dX11_sumOf_6 : decode cX11_sumOf 6 = .ok (.getfield 122, 3) := by decide +kernel
theorem dX11_sumOf_9 : decode cX11_sumOf 9 = .ok (.if_icmp .ge 22, 3) := by decide +kernel
theorem dX11_sumOf_12 : decode cX11_sumOf 12 = .ok (.iload_n 2, 1) := by decide +kernel
theorem dX11_sumOf_13 : decode cX11_sumOf 13 = .ok (.aload_n 1, 1) := by decide +kernel
theorem dX11_sumOf_14 : decode cX11_sumOf 14 = .ok (.iload_n 3, 1) := by decide +kernel
theorem dX11_sumOf_15 : decode cX11_sumOf 15 = .ok (.iaload, 1) := by decide +kernel
theorem dX11_sumOf_16 : decode cX11_sumOf 16 = .ok (.aload_n 0, 1) := by decide +kernel
theorem dX11_sumOf_17 : decode cX11_sumOf 17 = .ok (.getfield 16, 3) := by decide +kernel
theorem dX11_sumOf_20 : decode cX11_sumOf 20 = .ok (.iload_n 3, 1) := by decide +kernel
theorem dX11_sumOf_21 : decode cX11_sumOf 21 = .ok (.iaload, 1) := by decide +kernel
theorem dX11_sumOf_22 : decode cX11_sumOf 22 = .ok (.imul, 1) := by decide +kernel
theorem dX11_sumOf_23 : decode cX11_sumOf 23 = .ok (.iadd, 1) := by decide +kernel
theorem dX11_sumOf_24 : decode cX11_sumOf 24 = .ok (.istore_n 2, 1) := by decide +kernel
theorem dX11_sumOf_25 : decode cX11_sumOf 25 = .ok (.iinc 3 1, 3) := by decide +kernel
theorem dX11_sumOf_28 : decode cX11_sumOf 28 = .ok (.goto (-24), 3) := by decide +kernel
theorem dX11_sumOf_31 : decode cX11_sumOf 31 = .ok (.iload_n 2, 1) := by decide +kernel
theorem dX11_sumOf_32 : decode cX11_sumOf 32 = .ok (.ireturn, 1) := by decide +kernel
theorem dX11_piecesOf_0 : decode cX11_piecesOf 0 = .ok (.iconst 0, 1) := by decide +kernel
theorem dX11_piecesOf_1 : decode cX11_piecesOf 1 = .ok (.istore_n 2, 1) := by decide +kernel
theorem dX11_piecesOf_2 : decode cX11_piecesOf 2 = .ok (.iconst 0, 1) := by decide +kernel
theorem dX11_piecesOf_3 : decode cX11_piecesOf 3 = .ok (.istore_n 3, 1) := by decide +kernel
theorem dX11_piecesOf_4 : decode cX11_piecesOf 4 = .ok (.iload_n 3, 1) := by decide +kernel
theorem dX11_piecesOf_5 : decode cX11_piecesOf 5 = .ok (.aload_n 0, 1) := by decide +kernel
theorem dX11_piecesOf_6 : decode cX11_piecesOf 6 = .ok (.getfield 122, 3) := by decide +kernel
theorem dX11_piecesOf_9 : decode cX11_piecesOf 9 = .ok (.if_icmp .ge 15, 3) := by decide +kernel
theorem dX11_piecesOf_12 : decode cX11_piecesOf 12 = .ok (.iload_n 2, 1) := by decide +kernel
theorem dX11_piecesOf_13 : decode cX11_piecesOf 13 = .ok (.aload_n 1, 1) := by decide +kernel
theorem dX11_piecesOf_14 : decode cX11_piecesOf 14 = .ok (.iload_n 3, 1) := by decide +kernel
theorem dX11_piecesOf_15 : decode cX11_piecesOf 15 = .ok (.iaload, 1) := by decide +kernel
theorem dX11_piecesOf_16 : decode cX11_piecesOf 16 = .ok (.iadd, 1) := by decide +kernel
theorem dX11_piecesOf_17 : decode cX11_piecesOf 17 = .ok (.istore_n 2, 1) := by decide +kernel
theorem dX11_piecesOf_18 : decode cX11_piecesOf 18 = .ok (.iinc 3 1, 3) := by decide +kernel
theorem dX11_piecesOf_21 : decode cX11_piecesOf 21 = .ok (.goto (-17), 3) := by decide +kernel
theorem dX11_piecesOf_24 : decode cX11_piecesOf 24 = .ok (.iload_n 2, 1) := by decide +kernel
theorem dX11_piecesOf_25 : decode cX11_piecesOf 25 = .ok (.ireturn, 1) := by decide +kernel
theorem dX11_worthOf_0 : decode cX11_worthOf 0 = .ok (.lconst 0, 1) := by decide +kernel
theorem dX11_worthOf_1 : decode cX11_worthOf 1 = .ok (.lstore_n 2, 1) := by decide +kernel
theorem dX11_worthOf_2 : decode cX11_worthOf 2 = .ok (.iconst 0, 1) := by decide +kernel
theorem dX11_worthOf_3 : decode cX11_worthOf 3 = .ok (.istore 4, 2) := by decide +kernel
theorem dX11_worthOf_5 : decode cX11_worthOf 5 = .ok (.iload 4, 2) := by decide +kernel
theorem dX11_worthOf_7 : decode cX11_worthOf 7 = .ok (.aload_n 0, 1) := by decide +kernel
theorem dX11_worthOf_8 : decode cX11_worthOf 8 = .ok (.getfield 122, 3) := by decide +kernel
theorem dX11_worthOf_11 : decode cX11_worthOf 11 = .ok (.if_icmp .ge 26, 3) := by decide +kernel
theorem dX11_worthOf_14 : decode cX11_worthOf 14 = .ok (.lload_n 2, 1) := by decide +kernel
theorem dX11_worthOf_15 : decode cX11_worthOf 15 = .ok (.aload_n 1, 1) := by decide +kernel
theorem dX11_worthOf_16 : decode cX11_worthOf 16 = .ok (.iload 4, 2) := by decide +kernel
theorem dX11_worthOf_18 : decode cX11_worthOf 18 = .ok (.iaload, 1) := by decide +kernel
theorem dX11_worthOf_19 : decode cX11_worthOf 19 = .ok (.i2l, 1) := by decide +kernel
theorem dX11_worthOf_20 : decode cX11_worthOf 20 = .ok (.aload_n 0, 1) := by decide +kernel
theorem dX11_worthOf_21 : decode cX11_worthOf 21 = .ok (.getfield 26, 3) := by decide +kernel
theorem dX11_worthOf_24 : decode cX11_worthOf 24 = .ok (.iload 4, 2) := by decide +kernel
theorem dX11_worthOf_26 : decode cX11_worthOf 26 = .ok (.iaload, 1) := by decide +kernel
theorem dX11_worthOf_27 : decode cX11_worthOf 27 = .ok (.i2l, 1) := by decide +kernel
theorem dX11_worthOf_28 : decode cX11_worthOf 28 = .ok (.lmul, 1) := by decide +kernel
theorem dX11_worthOf_29 : decode cX11_worthOf 29 = .ok (.ladd, 1) := by decide +kernel
theorem dX11_worthOf_30 : decode cX11_worthOf 30 = .ok (.lstore_n 2, 1) := by decide +kernel
theorem dX11_worthOf_31 : decode cX11_worthOf 31 = .ok (.iinc 4 1, 3) := by decide +kernel
theorem dX11_worthOf_34 : decode cX11_worthOf 34 = .ok (.goto (-29), 3) := by decide +kernel
theorem dX11_worthOf_37 : decode cX11_worthOf 37 = .ok (.lload_n 2, 1) := by decide +kernel
theorem dX11_worthOf_38 : decode cX11_worthOf 38 = .ok (.lreturn, 1) := by decide +kernel
set_option maxRecDepth 20000 in
theorem ggX11_isParted_X11_isParted : GoodIn wsX11_isParted wsX11_isParted := goodIn_r _ [0, 1, 2, 3, 4, 5, 6, 7, 8, 9, 10, 11, 12, 13, 14, 15, 16, 17, 18, 19, 20, 21, 22, 23, 24, 25, 26, 27, 28, 29, 30, 31, 32, 33, 34, 35, 36, 37, 38, 39, 40, 41, 42, 43, 44, 45, 46, 47, 48] (by decide +kernel) (by decide +kernel)
set_option maxRecDepth 20000 in
theorem gX11_isParted_X11_isParted : GoodIn wsX11_isParted (wsV RX11 138 RX11 yX11_isParted wsX11_isParted) := goodIn_app (goodIn_of _ (by decide +kernel)) ggX11_isParted_X11_isParted
theorem dX11_isParted_0 : decode cX11_isParted 0 = .ok (.iload_n 3, 1) := by decide +kernel
theorem dX11_isParted_1 : decode cX11_isParted 1 = .ok (.ifCond .lt 8, 3) := by decide +kernel
theorem dX11_isParted_4 : decode cX11_isParted 4 = .ok (.iload 4, 2) := by decide +kernel
theorem dX11_isParted_6 : decode cX11_isParted 6 = .ok (.ifCond .ge 5, 3) := by decide +kernel
theorem dX11_isParted_9 : decode cX11_isParted 9 = .ok (.iconst 0, 1) := by decide +kernel
theorem dX11_isParted_10 : decode cX11_isParted 10 = .ok (.ireturn, 1) := by decide +kernel
theorem dX11_isParted_11 : decode cX11_isParted 11 = .ok (.iload_n 2, 1) := by decide +kernel
theorem dX11_isParted_12 : decode cX11_isParted 12 = .ok (.aload_n 0, 1) := by decide +kernel
theorem dX11_isParted_13 : decode cX11_isParted 13 = .ok (.getfield 122, 3) := by decide +kernel
theorem dX11_isParted_16 : decode cX11_isParted 16 = .ok (.if_icmp .ne 5, 3) := by decide +kernel
theorem dX11_isParted_19 : decode cX11_isParted 19 = .ok (.iconst 1, 1) := by decide +kernel
theorem dX11_isParted_20 : decode cX11_isParted 20 = .ok (.ireturn, 1) := by decide +kernel
theorem dX11_isParted_21 : decode cX11_isParted 21 = .ok (.iconst 0, 1) := by decide +kernel
theorem dX11_isParted_22 : decode cX11_isParted 22 = .ok (.istore 5, 2) := by decide +kernel
theorem dX11_isParted_24 : decode cX11_isParted 24 = .ok (.iconst 0, 1) := by decide +kernel
theorem dX11_isParted_25 : decode cX11_isParted 25 = .ok (.istore 6, 2) := by decide +kernel
theorem dX11_isParted_27 : decode cX11_isParted 27 = .ok (.iload 6, 2) := by decide +kernel
theorem dX11_isParted_29 : decode cX11_isParted 29 = .ok (.aload_n 1, 1) := by decide +kernel
theorem dX11_isParted_30 : decode cX11_isParted 30 = .ok (.iload_n 2, 1) := by decide +kernel
theorem dX11_isParted_31 : decode cX11_isParted 31 = .ok (.iaload, 1) := by decide +kernel
theorem dX11_isParted_32 : decode cX11_isParted 32 = .ok (.if_icmp .gt 51, 3) := by decide +kernel
theorem dX11_isParted_35 : decode cX11_isParted 35 = .ok (.iload 5, 2) := by decide +kernel
theorem dX11_isParted_37 : decode cX11_isParted 37 = .ok (.ifCond .ne 46, 3) := by decide +kernel
theorem dX11_isParted_40 : decode cX11_isParted 40 = .ok (.aload_n 0, 1) := by decide +kernel
theorem dX11_isParted_41 : decode cX11_isParted 41 = .ok (.aload_n 1, 1) := by decide +kernel
theorem dX11_isParted_42 : decode cX11_isParted 42 = .ok (.iload_n 2, 1) := by decide +kernel
theorem dX11_isParted_43 : decode cX11_isParted 43 = .ok (.iconst 1, 1) := by decide +kernel
theorem dX11_isParted_44 : decode cX11_isParted 44 = .ok (.iadd, 1) := by decide +kernel
theorem dX11_isParted_45 : decode cX11_isParted 45 = .ok (.iload_n 3, 1) := by decide +kernel
theorem dX11_isParted_46 : decode cX11_isParted 46 = .ok (.iload 6, 2) := by decide +kernel
theorem dX11_isParted_48 : decode cX11_isParted 48 = .ok (.aload_n 0, 1) := by decide +kernel
theorem dX11_isParted_49 : decode cX11_isParted 49 = .ok (.getfield 16, 3) := by decide +kernel
theorem dX11_isParted_52 : decode cX11_isParted 52 = .ok (.iload_n 2, 1) := by decide +kernel
theorem dX11_isParted_53 : decode cX11_isParted 53 = .ok (.iaload, 1) := by decide +kernel
theorem dX11_isParted_54 : decode cX11_isParted 54 = .ok (.imul, 1) := by decide +kernel
theorem dX11_isParted_55 : decode cX11_isParted 55 = .ok (.isub, 1) := by decide +kernel
theorem dX11_isParted_56 : decode cX11_isParted 56 = .ok (.iload 4, 2) := by decide +kernel
theorem dX11_isParted_58 : decode cX11_isParted 58 = .ok (.aload_n 1, 1) := by decide +kernel
theorem dX11_isParted_59 : decode cX11_isParted 59 = .ok (.iload_n 2, 1) := by decide +kernel
theorem dX11_isParted_60 : decode cX11_isParted 60 = .ok (.iaload, 1) := by decide +kernel
theorem dX11_isParted_61 : decode cX11_isParted 61 = .ok (.iload 6, 2) := by decide +kernel
theorem dX11_isParted_63 : decode cX11_isParted 63 = .ok (.isub, 1) := by decide +kernel
theorem dX11_isParted_64 : decode cX11_isParted 64 = .ok (.aload_n 0, 1) := by decide +kernel
theorem dX11_isParted_65 : decode cX11_isParted 65 = .ok (.getfield 16, 3) := by decide +kernel
theorem dX11_isParted_68 : decode cX11_isParted 68 = .ok (.iload_n 2, 1) := by decide +kernel
theorem dX11_isParted_69 : decode cX11_isParted 69 = .ok (.iaload, 1) := by decide +kernel
theorem dX11_isParted_70 : decode cX11_isParted 70 = .ok (.imul, 1) := by decide +kernel
theorem dX11_isParted_71 : decode cX11_isParted 71 = .ok (.isub, 1) := by decide +kernel
theorem dX11_isParted_72 : decode cX11_isParted 72 = .ok (.invokevirtual 138, 3) := by decide +kernel
theorem dX11_isParted_75 : decode cX11_isParted 75 = .ok (.istore 5, 2) := by decide +kernel
theorem dX11_isParted_77 : decode cX11_isParted 77 = .ok (.iinc 6 1, 3) := by decide +kernel
theorem dX11_isParted_80 : decode cX11_isParted 80 = .ok (.goto (-53), 3) := by decide +kernel
theorem dX11_isParted_83 : decode cX11_isParted 83 = .ok (.iload 5, 2) := by decide +kernel
theorem dX11_isParted_85 : decode cX11_isParted 85 = .ok (.ireturn, 1) := by decide +kernel
set_option maxRecDepth 20000 in
theorem ggX11_fitsFlawed_X11_isParted : GoodIn wsX11_fitsFlawed wsX11_isParted := goodIn_r _ [16, 17, 18, 12, 13, 14, 15, 19, 20, 21, 22, 23, 24, 25, 26, 27, 28, 29, 30, 31, 32, 33, 34, 35, 36, 37, 38, 39, 40, 41, 42, 43, 44, 45, 46, 47, 48, 49, 50, 51, 52, 53, 54, 55, 56, 57, 58, 59, 60] (by decide +kernel) (by decide +kernel)
set_option maxRecDepth 20000 in
theorem gX11_fitsFlawed_X11_isParted : GoodIn wsX11_fitsFlawed (wsV RX11 138 RX11 yX11_isParted wsX11_isParted) := goodIn_app (goodIn_of _ (by decide +kernel)) ggX11_fitsFlawed_X11_isParted
theorem dX11_fitsFlawed_0 : decode cX11_fitsFlawed 0 = .ok (.aload_n 0, 1) := by decide +kernel
theorem dX11_fitsFlawed_1 : decode cX11_fitsFlawed 1 = .ok (.getfield 142, 3) := by decide +kernel
theorem dX11_fitsFlawed_4 : decode cX11_fitsFlawed 4 = .ok (.aload_n 0, 1) := by decide +kernel
theorem dX11_fitsFlawed_5 : decode cX11_fitsFlawed 5 = .ok (.getfield 145, 3) := by decide +kernel
theorem dX11_fitsFlawed_8 : decode cX11_fitsFlawed 8 = .ok (.if_icmp .lt 5, 3) := by decide +kernel
theorem dX11_fitsFlawed_11 : decode cX11_fitsFlawed 11 = .ok (.iconst 1, 1) := by decide +kernel
theorem dX11_fitsFlawed_12 : decode cX11_fitsFlawed 12 = .ok (.ireturn, 1) := by decide +kernel
theorem dX11_fitsFlawed_13 : decode cX11_fitsFlawed 13 = .ok (.iconst 0, 1) := by decide +kernel
theorem dX11_fitsFlawed_14 : decode cX11_fitsFlawed 14 = .ok (.aload_n 0, 1) := by decide +kernel
theorem dX11_fitsFlawed_15 : decode cX11_fitsFlawed 15 = .ok (.getfield 142, 3) := by decide +kernel
theorem dX11_fitsFlawed_18 : decode cX11_fitsFlawed 18 = .ok (.aload_n 0, 1) := by decide +kernel
theorem dX11_fitsFlawed_19 : decode cX11_fitsFlawed 19 = .ok (.getfield 7, 3) := by decide +kernel
theorem dX11_fitsFlawed_22 : decode cX11_fitsFlawed 22 = .ok (.aload_n 0, 1) := by decide +kernel
theorem dX11_fitsFlawed_23 : decode cX11_fitsFlawed 23 = .ok (.getfield 115, 3) := by decide +kernel
theorem dX11_fitsFlawed_26 : decode cX11_fitsFlawed 26 = .ok (.isub, 1) := by decide +kernel
theorem dX11_fitsFlawed_27 : decode cX11_fitsFlawed 27 = .ok (.invokestatic 125, 3) := by decide +kernel
theorem dX11_fitsFlawed_30 : decode cX11_fitsFlawed 30 = .ok (.aload_n 0, 1) := by decide +kernel
theorem dX11_fitsFlawed_31 : decode cX11_fitsFlawed 31 = .ok (.getfield 115, 3) := by decide +kernel
theorem dX11_fitsFlawed_34 : decode cX11_fitsFlawed 34 = .ok (.isub, 1) := by decide +kernel
theorem dX11_fitsFlawed_35 : decode cX11_fitsFlawed 35 = .ok (.invokestatic 102, 3) := by decide +kernel
theorem dX11_fitsFlawed_38 : decode cX11_fitsFlawed 38 = .ok (.istore_n 2, 1) := by decide +kernel
theorem dX11_fitsFlawed_39 : decode cX11_fitsFlawed 39 = .ok (.iconst 0, 1) := by decide +kernel
theorem dX11_fitsFlawed_40 : decode cX11_fitsFlawed 40 = .ok (.aload_n 0, 1) := by decide +kernel
theorem dX11_fitsFlawed_41 : decode cX11_fitsFlawed 41 = .ok (.getfield 7, 3) := by decide +kernel
theorem dX11_fitsFlawed_44 : decode cX11_fitsFlawed 44 = .ok (.aload_n 0, 1) := by decide +kernel
theorem dX11_fitsFlawed_45 : decode cX11_fitsFlawed 45 = .ok (.getfield 115, 3) := by decide +kernel
theorem dX11_fitsFlawed_48 : decode cX11_fitsFlawed 48 = .ok (.isub, 1) := by decide +kernel
theorem dX11_fitsFlawed_49 : decode cX11_fitsFlawed 49 = .ok (.aload_n 0, 1) := by decide +kernel
theorem dX11_fitsFlawed_50 : decode cX11_fitsFlawed 50 = .ok (.getfield 145, 3) := by decide +kernel
theorem dX11_fitsFlawed_53 : decode cX11_fitsFlawed 53 = .ok (.aload_n 0, 1) := by decide +kernel
theorem dX11_fitsFlawed_54 : decode cX11_fitsFlawed 54 = .ok (.getfield 115, 3) := by decide +kernel
theorem dX11_fitsFlawed_57 : decode cX11_fitsFlawed 57 = .ok (.invokestatic 102, 3) := by decide +kernel
theorem dX11_fitsFlawed_60 : decode cX11_fitsFlawed 60 = .ok (.isub, 1) := by decide +kernel
theorem dX11_fitsFlawed_61 : decode cX11_fitsFlawed 61 = .ok (.invokestatic 102, 3) := by decide +kernel
theorem dX11_fitsFlawed_64 : decode cX11_fitsFlawed 64 = .ok (.istore_n 3, 1) := by decide +kernel
theorem dX11_fitsFlawed_65 : decode cX11_fitsFlawed 65 = .ok (.aload_n 0, 1) := by decide +kernel
theorem dX11_fitsFlawed_66 : decode cX11_fitsFlawed 66 = .ok (.aload_n 1, 1) := by decide +kernel
theorem dX11_fitsFlawed_67 : decode cX11_fitsFlawed 67 = .ok (.iconst 0, 1) := by decide +kernel
theorem dX11_fitsFlawed_68 : decode cX11_fitsFlawed 68 = .ok (.iload_n 2, 1) := by decide +kernel
theorem dX11_fitsFlawed_69 : decode cX11_fitsFlawed 69 = .ok (.iload_n 3, 1) := by decide +kernel
theorem dX11_fitsFlawed_70 : decode cX11_fitsFlawed 70 = .ok (.invokevirtual 138, 3) := by decide +kernel
theorem dX11_fitsFlawed_73 : decode cX11_fitsFlawed 73 = .ok (.ireturn, 1) := by decide +kernel
set_option maxRecDepth 20000 in
theorem ggX11_mill_X11_in : GoodIn wsX11_mill wsX11_in := goodIn_r _ [12] (by decide +kernel) (by decide +kernel)
set_option maxRecDepth 20000 in
theorem gX11_mill_X11_in : GoodIn wsX11_mill (va_wsS RX11 134 yX11_in wsX11_in) := goodIn_app (goodIn_of _ (by decide +kernel)) ggX11_mill_X11_in
set_option maxRecDepth 20000 in
theorem ggX11_mill_X11_changes : GoodIn wsX11_mill wsX11_changes := goodIn_r _ [16, 17, 18, 19, 20, 21, 22, 23, 24, 25, 26, 27, 28, 29, 30, 31, 32, 33, 34, 35, 36, 37, 38, 39, 40, 41, 42, 43, 44, 45, 46, 47, 48, 49, 50, 51, 52, 53, 54, 55, 56, 57, 58, 59, 60, 61] (by decide +kernel) (by decide +kernel)
set_option maxRecDepth 20000 in
theorem gX11_mill_X11_changes : GoodIn wsX11_mill (wsV RX11 148 RX11 yX11_changes wsX11_changes) := goodIn_app (goodIn_of _ (by decide +kernel)) ggX11_mill_X11_changes
theorem dX11_mill_0 : decode cX11_mill 0 = .ok (.aload_n 0, 1) := by decide +kernel
theorem dX11_mill_1 : decode cX11_mill 1 = .ok (.iconst 0, 1) := by decide +kernel
theorem dX11_mill_2 : decode cX11_mill 2 = .ok (.putfield 99, 3) := by decide +kernel
theorem dX11_mill_5 : decode cX11_mill 5 = .ok (.iload_n 1, 1) := by decide +kernel
theorem dX11_mill_6 : decode cX11_mill 6 = .ok (.bipush 10, 2) := by decide +kernel
theorem dX11_mill_8 : decode cX11_mill 8 = .ok (.sipush 10000, 3) := by decide +kernel
theorem dX11_mill_11 : decode cX11_mill 11 = .ok (.invokestatic 134, 3) := by decide +kernel
theorem dX11_mill_14 : decode cX11_mill 14 = .ok (.ifCond .eq 24, 3) := by decide +kernel
theorem dX11_mill_17 : decode cX11_mill 17 = .ok (.iload_n 2, 1) := by decide +kernel
theorem dX11_mill_18 : decode cX11_mill 18 = .ok (.iconst 0, 1) := by decide +kernel
theorem dX11_mill_19 : decode cX11_mill 19 = .ok (.iload_n 1, 1) := by decide +kernel
theorem dX11_mill_20 : decode cX11_mill 20 = .ok (.iconst 4, 1) := by decide +kernel
theorem dX11_mill_21 : decode cX11_mill 21 = .ok (.idiv, 1) := by decide +kernel
theorem dX11_mill_22 : decode cX11_mill 22 = .ok (.invokestatic 134, 3) := by decide +kernel
theorem dX11_mill_25 : decode cX11_mill 25 = .ok (.ifCond .eq 13, 3) := by decide +kernel
theorem dX11_mill_28 : decode cX11_mill 28 = .ok (.iload_n 3, 1) := by decide +kernel
theorem dX11_mill_29 : decode cX11_mill 29 = .ok (.iconst 1, 1) := by decide +kernel
theorem dX11_mill_30 : decode cX11_mill 30 = .ok (.bipush 20, 2) := by decide +kernel
theorem dX11_mill_32 : decode cX11_mill 32 = .ok (.invokestatic 134, 3) := by decide +kernel
theorem dX11_mill_35 : decode cX11_mill 35 = .ok (.ifCond .ne 5, 3) := by decide +kernel
theorem dX11_mill_38 : decode cX11_mill 38 = .ok (.iconst 0, 1) := by decide +kernel
theorem dX11_mill_39 : decode cX11_mill 39 = .ok (.ireturn, 1) := by decide +kernel
theorem dX11_mill_40 : decode cX11_mill 40 = .ok (.iconst 0, 1) := by decide +kernel
theorem dX11_mill_41 : decode cX11_mill 41 = .ok (.istore 4, 2) := by decide +kernel
theorem dX11_mill_43 : decode cX11_mill 43 = .ok (.iload 4, 2) := by decide +kernel
theorem dX11_mill_45 : decode cX11_mill 45 = .ok (.aload_n 0, 1) := by decide +kernel
theorem dX11_mill_46 : decode cX11_mill 46 = .ok (.getfield 122, 3) := by decide +kernel
theorem dX11_mill_49 : decode cX11_mill 49 = .ok (.if_icmp .ge 22, 3) := by decide +kernel
theorem dX11_mill_52 : decode cX11_mill 52 = .ok (.aload_n 0, 1) := by decide +kernel
theorem dX11_mill_53 : decode cX11_mill 53 = .ok (.getfield 16, 3) := by decide +kernel
theorem dX11_mill_56 : decode cX11_mill 56 = .ok (.iload 4, 2) := by decide +kernel
theorem dX11_mill_58 : decode cX11_mill 58 = .ok (.iaload, 1) := by decide +kernel
theorem dX11_mill_59 : decode cX11_mill 59 = .ok (.iload_n 1, 1) := by decide +kernel
theorem dX11_mill_60 : decode cX11_mill 60 = .ok (.if_icmp .le 5, 3) := by decide +kernel
theorem dX11_mill_63 : decode cX11_mill 63 = .ok (.iconst 0, 1) := by decide +kernel
theorem dX11_mill_64 : decode cX11_mill 64 = .ok (.ireturn, 1) := by decide +kernel
theorem dX11_mill_65 : decode cX11_mill 65 = .ok (.iinc 4 1, 3) := by decide +kernel
theorem dX11_mill_68 : decode cX11_mill 68 = .ok (.goto (-25), 3) := by decide +kernel
theorem dX11_mill_71 : decode cX11_mill 71 = .ok (.aload_n 0, 1) := by decide +kernel
theorem dX11_mill_72 : decode cX11_mill 72 = .ok (.iload_n 1, 1) := by decide +kernel
theorem dX11_mill_73 : decode cX11_mill 73 = .ok (.putfield 7, 3) := by decide +kernel
theorem dX11_mill_76 : decode cX11_mill 76 = .ok (.aload_n 0, 1) := by decide +kernel
theorem dX11_mill_77 : decode cX11_mill 77 = .ok (.iload_n 2, 1) := by decide +kernel
theorem dX11_mill_78 : decode cX11_mill 78 = .ok (.putfield 115, 3) := by decide +kernel
theorem dX11_mill_81 : decode cX11_mill 81 = .ok (.aload_n 0, 1) := by decide +kernel
theorem dX11_mill_82 : decode cX11_mill 82 = .ok (.iload_n 3, 1) := by decide +kernel
theorem dX11_mill_83 : decode cX11_mill 83 = .ok (.putfield 13, 3) := by decide +kernel
theorem dX11_mill_86 : decode cX11_mill 86 = .ok (.aload_n 0, 1) := by decide +kernel
theorem dX11_mill_87 : decode cX11_mill 87 = .ok (.iconst 0, 1) := by decide +kernel
theorem dX11_mill_88 : decode cX11_mill 88 = .ok (.putfield 142, 3) := by decide +kernel
theorem dX11_mill_91 : decode cX11_mill 91 = .ok (.aload_n 0, 1) := by decide +kernel
theorem dX11_mill_92 : decode cX11_mill 92 = .ok (.iconst 0, 1) := by decide +kernel
theorem dX11_mill_93 : decode cX11_mill 93 = .ok (.putfield 145, 3) := by decide +kernel
theorem dX11_mill_96 : decode cX11_mill 96 = .ok (.aload_n 0, 1) := by decide +kernel
theorem dX11_mill_97 : decode cX11_mill 97 = .ok (.invokevirtual 148, 3) := by decide +kernel
theorem dX11_mill_100 : decode cX11_mill 100 = .ok (.iconst 1, 1) := by decide +kernel
theorem dX11_mill_101 : decode cX11_mill 101 = .ok (.ireturn, 1) := by decide +kernel
theorem dX11_changes_0 : decode cX11_changes 0 = .ok (.aload_n 0, 1) := by decide +kernel
theorem dX11_changes_1 : decode cX11_changes 1 = .ok (.iconst 0, 1) := by decide +kernel
theorem dX11_changes_2 : decode cX11_changes 2 = .ok (.putfield 108, 3) := by decide +kernel
theorem dX11_changes_5 : decode cX11_changes 5 = .ok (.aload_n 0, 1) := by decide +kernel
theorem dX11_changes_6 : decode cX11_changes 6 = .ok (.iconst 0, 1) := by decide +kernel
theorem dX11_changes_7 : decode cX11_changes 7 = .ok (.putfield 151, 3) := by decide +kernel
theorem dX11_changes_10 : decode cX11_changes 10 = .ok (.aload_n 0, 1) := by decide +kernel
theorem dX11_changes_11 : decode cX11_changes 11 = .ok (.iconst 1, 1) := by decide +kernel
theorem dX11_changes_12 : decode cX11_changes 12 = .ok (.putfield 154, 3) := by decide +kernel
theorem dX11_changes_15 : decode cX11_changes 15 = .ok (.return_, 1) := by decide +kernel
theorem dX11_strip_0 : decode cX11_strip 0 = .ok (.aload_n 0, 1) := by decide +kernel
theorem dX11_strip_1 : decode cX11_strip 1 = .ok (.iconst 0, 1) := by decide +kernel
theorem dX11_strip_2 : decode cX11_strip 2 = .ok (.putfield 99, 3) := by decide +kernel
theorem dX11_strip_5 : decode cX11_strip 5 = .ok (.iload_n 1, 1) := by decide +kernel
theorem dX11_strip_6 : decode cX11_strip 6 = .ok (.ifCond .lt 16, 3) := by decide +kernel
theorem dX11_strip_9 : decode cX11_strip 9 = .ok (.iload_n 1, 1) := by decide +kernel
theorem dX11_strip_10 : decode cX11_strip 10 = .ok (.iload_n 2, 1) := by decide +kernel
theorem dX11_strip_11 : decode cX11_strip 11 = .ok (.if_icmp .gt 11, 3) := by decide +kernel
theorem dX11_strip_14 : decode cX11_strip 14 = .ok (.iload_n 2, 1) := by decide +kernel
theorem dX11_strip_15 : decode cX11_strip 15 = .ok (.aload_n 0, 1) := by decide +kernel
theorem dX11_strip_16 : decode cX11_strip 16 = .ok (.getfield 7, 3) := by decide +kernel
theorem dX11_strip_19 : decode cX11_strip 19 = .ok (.if_icmp .le 5, 3) := by decide +kernel
theorem dX11_strip_22 : decode cX11_strip 22 = .ok (.iconst 0, 1) := by decide +kernel
theorem dX11_strip_23 : decode cX11_strip 23 = .ok (.ireturn, 1) := by decide +kernel
theorem dX11_strip_24 : decode cX11_strip 24 = .ok (.aload_n 0, 1) := by decide +kernel
theorem dX11_strip_25 : decode cX11_strip 25 = .ok (.iload_n 1, 1) := by decide +kernel
theorem dX11_strip_26 : decode cX11_strip 26 = .ok (.putfield 142, 3) := by decide +kernel
theorem dX11_strip_29 : decode cX11_strip 29 = .ok (.aload_n 0, 1) := by decide +kernel
theorem dX11_strip_30 : decode cX11_strip 30 = .ok (.iload_n 2, 1) := by decide +kernel
theorem dX11_strip_31 : decode cX11_strip 31 = .ok (.putfield 145, 3) := by decide +kernel
theorem dX11_strip_34 : decode cX11_strip 34 = .ok (.iconst 1, 1) := by decide +kernel
theorem dX11_strip_35 : decode cX11_strip 35 = .ok (.ireturn, 1) := by decide +kernel
set_option maxRecDepth 20000 in
theorem ggX11_width_X11_in : GoodIn wsX11_width wsX11_in := goodIn_r _ [9] (by decide +kernel) (by decide +kernel)
set_option maxRecDepth 20000 in
theorem gX11_width_X11_in : GoodIn wsX11_width (va_wsS RX11 134 yX11_in wsX11_in) := goodIn_app (goodIn_of _ (by decide +kernel)) ggX11_width_X11_in
set_option maxRecDepth 20000 in
theorem ggX11_width_X11_changes : GoodIn wsX11_width wsX11_changes := goodIn_r _ [13, 14, 15, 16, 17, 18, 19, 20, 21, 22, 23, 24, 25, 26, 27, 28, 29, 30, 31, 32, 33, 34, 35, 36, 37, 38, 39, 40, 41, 42, 43, 44, 45, 46, 47, 48, 49, 50, 51, 52, 53, 54, 55, 56, 57, 58] (by decide +kernel) (by decide +kernel)
set_option maxRecDepth 20000 in
theorem gX11_width_X11_changes : GoodIn wsX11_width (wsV RX11 148 RX11 yX11_changes wsX11_changes) := goodIn_app (goodIn_of _ (by decide +kernel)) ggX11_width_X11_changes
theorem dX11_width_0 : decode cX11_width 0 = .ok (.aload_n 0, 1) := by decide +kernel
theorem dX11_width_1 : decode cX11_width 1 = .ok (.iconst 0, 1) := by decide +kernel
theorem dX11_width_2 : decode cX11_width 2 = .ok (.putfield 99, 3) := by decide +kernel
theorem dX11_width_5 : decode cX11_width 5 = .ok (.iload_n 1, 1) := by decide +kernel
theorem dX11_width_6 : decode cX11_width 6 = .ok (.iconst 1, 1) := by decide +kernel
theorem dX11_width_7 : decode cX11_width 7 = .ok (.aload_n 0, 1) := by decide +kernel
theorem dX11_width_8 : decode cX11_width 8 = .ok (.getfield 7, 3) := by decide +kernel
theorem dX11_width_11 : decode cX11_width 11 = .ok (.invokestatic 134, 3) := by decide +kernel
theorem dX11_width_14 : decode cX11_width 14 = .ok (.ifCond .eq 22, 3) := by decide +kernel
theorem dX11_width_17 : decode cX11_width 17 = .ok (.iload_n 2, 1) := by decide +kernel
theorem dX11_width_18 : decode cX11_width 18 = .ok (.iconst 0, 1) := by decide +kernel
theorem dX11_width_19 : decode cX11_width 19 = .ok (.bipush 40, 2) := by decide +kernel
theorem dX11_width_21 : decode cX11_width 21 = .ok (.invokestatic 134, 3) := by decide +kernel
theorem dX11_width_24 : decode cX11_width 24 = .ok (.ifCond .eq 12, 3) := by decide +kernel
theorem dX11_width_27 : decode cX11_width 27 = .ok (.aload_n 0, 1) := by decide +kernel
theorem dX11_width_28 : decode cX11_width 28 = .ok (.getfield 122, 3) := by decide +kernel
theorem dX11_width_31 : decode cX11_width 31 = .ok (.bipush 6, 2) := by decide +kernel
theorem dX11_width_33 : decode cX11_width 33 = .ok (.if_icmp .ne 5, 3) := by decide +kernel
theorem dX11_width_36 : decode cX11_width 36 = .ok (.iconst (-1), 1) := by decide +kernel
theorem dX11_width_37 : decode cX11_width 37 = .ok (.ireturn, 1) := by decide +kernel
theorem dX11_width_38 : decode cX11_width 38 = .ok (.iconst 0, 1) := by decide +kernel
theorem dX11_width_39 : decode cX11_width 39 = .ok (.istore_n 3, 1) := by decide +kernel
theorem dX11_width_40 : decode cX11_width 40 = .ok (.iload_n 3, 1) := by decide +kernel
theorem dX11_width_41 : decode cX11_width 41 = .ok (.aload_n 0, 1) := by decide +kernel
theorem dX11_width_42 : decode cX11_width 42 = .ok (.getfield 122, 3) := by decide +kernel
theorem dX11_width_45 : decode cX11_width 45 = .ok (.if_icmp .ge 21, 3) := by decide +kernel
theorem dX11_width_48 : decode cX11_width 48 = .ok (.aload_n 0, 1) := by decide +kernel
theorem dX11_width_49 : decode cX11_width 49 = .ok (.getfield 16, 3) := by decide +kernel
theorem dX11_width_52 : decode cX11_width 52 = .ok (.iload_n 3, 1) := by decide +kernel
theorem dX11_width_53 : decode cX11_width 53 = .ok (.iaload, 1) := by decide +kernel
theorem dX11_width_54 : decode cX11_width 54 = .ok (.iload_n 1, 1) := by decide +kernel
theorem dX11_width_55 : decode cX11_width 55 = .ok (.if_icmp .ne 5, 3) := by decide +kernel
theorem dX11_width_58 : decode cX11_width 58 = .ok (.iconst (-1), 1) := by decide +kernel
theorem dX11_width_59 : decode cX11_width 59 = .ok (.ireturn, 1) := by decide +kernel
theorem dX11_width_60 : decode cX11_width 60 = .ok (.iinc 3 1, 3) := by decide +kernel
theorem dX11_width_63 : decode cX11_width 63 = .ok (.goto (-23), 3) := by decide +kernel
theorem dX11_width_66 : decode cX11_width 66 = .ok (.aload_n 0, 1) := by decide +kernel
theorem dX11_width_67 : decode cX11_width 67 = .ok (.getfield 16, 3) := by decide +kernel
theorem dX11_width_70 : decode cX11_width 70 = .ok (.aload_n 0, 1) := by decide +kernel
theorem dX11_width_71 : decode cX11_width 71 = .ok (.getfield 122, 3) := by decide +kernel
theorem dX11_width_74 : decode cX11_width 74 = .ok (.iload_n 1, 1) := by decide +kernel
theorem dX11_width_75 : decode cX11_width 75 = .ok (.iastore, 1) := by decide +kernel
theorem dX11_width_76 : decode cX11_width 76 = .ok (.aload_n 0, 1) := by decide +kernel
theorem dX11_width_77 : decode cX11_width 77 = .ok (.getfield 20, 3) := by decide +kernel
theorem dX11_width_80 : decode cX11_width 80 = .ok (.aload_n 0, 1) := by decide +kernel
theorem dX11_width_81 : decode cX11_width 81 = .ok (.getfield 122, 3) := by decide +kernel
theorem dX11_width_84 : decode cX11_width 84 = .ok (.iload_n 2, 1) := by decide +kernel
theorem dX11_width_85 : decode cX11_width 85 = .ok (.iastore, 1) := by decide +kernel
theorem dX11_width_86 : decode cX11_width 86 = .ok (.aload_n 0, 1) := by decide +kernel
theorem dX11_width_87 : decode cX11_width 87 = .ok (.dup, 1) := by decide +kernel
theorem dX11_width_88 : decode cX11_width 88 = .ok (.getfield 122, 3) := by decide +kernel
theorem dX11_width_91 : decode cX11_width 91 = .ok (.iconst 1, 1) := by decide +kernel
theorem dX11_width_92 : decode cX11_width 92 = .ok (.iadd, 1) := by decide +kernel
theorem dX11_width_93 : decode cX11_width 93 = .ok (.putfield 122, 3) := by decide +kernel
theorem dX11_width_96 : decode cX11_width 96 = .ok (.aload_n 0, 1) := by decide +kernel
theorem dX11_width_97 : decode cX11_width 97 = .ok (.invokevirtual 148, 3) := by decide +kernel
theorem dX11_width_100 : decode cX11_width 100 = .ok (.aload_n 0, 1) := by decide +kernel
theorem dX11_width_101 : decode cX11_width 101 = .ok (.getfield 122, 3) := by decide +kernel
theorem dX11_width_104 : decode cX11_width 104 = .ok (.iconst 1, 1) := by decide +kernel
theorem dX11_width_105 : decode cX11_width 105 = .ok (.isub, 1) := by decide +kernel
theorem dX11_width_106 : decode cX11_width 106 = .ok (.ireturn, 1) := by decide +kernel
set_option maxRecDepth 20000 in
theorem ggX11_isWidth_X11_in : GoodIn wsX11_isWidth wsX11_in := goodIn_r _ [5] (by decide +kernel) (by decide +kernel)
set_option maxRecDepth 20000 in
theorem gX11_isWidth_X11_in : GoodIn wsX11_isWidth (va_wsS RX11 134 yX11_in wsX11_in) := goodIn_app (goodIn_of _ (by decide +kernel)) ggX11_isWidth_X11_in
theorem dX11_isWidth_0 : decode cX11_isWidth 0 = .ok (.iload_n 1, 1) := by decide +kernel
theorem dX11_isWidth_1 : decode cX11_isWidth 1 = .ok (.iconst 0, 1) := by decide +kernel
theorem dX11_isWidth_2 : decode cX11_isWidth 2 = .ok (.aload_n 0, 1) := by decide +kernel
theorem dX11_isWidth_3 : decode cX11_isWidth 3 = .ok (.getfield 122, 3) := by decide +kernel
theorem dX11_isWidth_6 : decode cX11_isWidth 6 = .ok (.iconst 1, 1) := by decide +kernel
theorem dX11_isWidth_7 : decode cX11_isWidth 7 = .ok (.isub, 1) := by decide +kernel
theorem dX11_isWidth_8 : decode cX11_isWidth 8 = .ok (.invokestatic 134, 3) := by decide +kernel
theorem dX11_isWidth_11 : decode cX11_isWidth 11 = .ok (.ireturn, 1) := by decide +kernel
set_option maxRecDepth 20000 in
theorem ggX11_order_X11_isWidth : GoodIn wsX11_order wsX11_isWidth := goodIn_r _ [7, 8, 9, 10, 6, 11, 12, 13, 14, 15, 16, 17, 18, 19, 20, 21, 22, 23, 24, 25, 26, 27, 28, 29, 30, 31, 32, 33, 34, 35, 36, 37, 38, 39, 40, 41, 42, 43, 44, 45, 46, 47, 48, 49, 50, 51, 52, 53] (by decide +kernel) (by decide +kernel)
set_option maxRecDepth 20000 in
theorem gX11_order_X11_isWidth : GoodIn wsX11_order (wsV RX11 157 RX11 yX11_isWidth wsX11_isWidth) := goodIn_app (goodIn_of _ (by decide +kernel)) ggX11_order_X11_isWidth
set_option maxRecDepth 20000 in
theorem ggX11_order_X11_in : GoodIn wsX11_order wsX11_in := goodIn_r _ [11] (by decide +kernel) (by decide +kernel)
set_option maxRecDepth 20000 in
theorem gX11_order_X11_in : GoodIn wsX11_order (va_wsS RX11 134 yX11_in wsX11_in) := goodIn_app (goodIn_of _ (by decide +kernel)) ggX11_order_X11_in
theorem dX11_order_0 : decode cX11_order 0 = .ok (.aload_n 0, 1) := by decide +kernel
theorem dX11_order_1 : decode cX11_order 1 = .ok (.iconst 0, 1) := by decide +kernel
theorem dX11_order_2 : decode cX11_order 2 = .ok (.putfield 99, 3) := by decide +kernel
theorem dX11_order_5 : decode cX11_order 5 = .ok (.aload_n 0, 1) := by decide +kernel
theorem dX11_order_6 : decode cX11_order 6 = .ok (.iload_n 1, 1) := by decide +kernel
theorem dX11_order_7 : decode cX11_order 7 = .ok (.invokevirtual 157, 3) := by decide +kernel
theorem dX11_order_10 : decode cX11_order 10 = .ok (.ifCond .eq 13, 3) := by decide +kernel
theorem dX11_order_13 : decode cX11_order 13 = .ok (.iload_n 2, 1) := by decide +kernel
theorem dX11_order_14 : decode cX11_order 14 = .ok (.iconst 0, 1) := by decide +kernel
theorem dX11_order_15 : decode cX11_order 15 = .ok (.bipush 40, 2) := by decide +kernel
theorem dX11_order_17 : decode cX11_order 17 = .ok (.invokestatic 134, 3) := by decide +kernel
theorem dX11_order_20 : decode cX11_order 20 = .ok (.ifCond .ne 5, 3) := by decide +kernel
theorem dX11_order_23 : decode cX11_order 23 = .ok (.iconst 0, 1) := by decide +kernel
theorem dX11_order_24 : decode cX11_order 24 = .ok (.ireturn, 1) := by decide +kernel
theorem dX11_order_25 : decode cX11_order 25 = .ok (.aload_n 0, 1) := by decide +kernel
theorem dX11_order_26 : decode cX11_order 26 = .ok (.getfield 20, 3) := by decide +kernel
theorem dX11_order_29 : decode cX11_order 29 = .ok (.iload_n 1, 1) := by decide +kernel
theorem dX11_order_30 : decode cX11_order 30 = .ok (.iload_n 2, 1) := by decide +kernel
theorem dX11_order_31 : decode cX11_order 31 = .ok (.iastore, 1) := by decide +kernel
theorem dX11_order_32 : decode cX11_order 32 = .ok (.iconst 1, 1) := by decide +kernel
theorem dX11_order_33 : decode cX11_order 33 = .ok (.ireturn, 1) := by decide +kernel
set_option maxRecDepth 20000 in
theorem ggX11_length_X11_in : GoodIn wsX11_length wsX11_in := goodIn_r _ [8] (by decide +kernel) (by decide +kernel)
set_option maxRecDepth 20000 in
theorem gX11_length_X11_in : GoodIn wsX11_length (va_wsS RX11 134 yX11_in wsX11_in) := goodIn_app (goodIn_of _ (by decide +kernel)) ggX11_length_X11_in
theorem dX11_length_0 : decode cX11_length 0 = .ok (.aload_n 0, 1) := by decide +kernel
theorem dX11_length_1 : decode cX11_length 1 = .ok (.iconst 0, 1) := by decide +kernel
theorem dX11_length_2 : decode cX11_length 2 = .ok (.putfield 99, 3) := by decide +kernel
theorem dX11_length_5 : decode cX11_length 5 = .ok (.iload_n 1, 1) := by decide +kernel
theorem dX11_length_6 : decode cX11_length 6 = .ok (.iconst 1, 1) := by decide +kernel
theorem dX11_length_7 : decode cX11_length 7 = .ok (.sipush 10000, 3) := by decide +kernel
theorem dX11_length_10 : decode cX11_length 10 = .ok (.invokestatic 134, 3) := by decide +kernel
theorem dX11_length_13 : decode cX11_length 13 = .ok (.ifCond .ne 5, 3) := by decide +kernel
theorem dX11_length_16 : decode cX11_length 16 = .ok (.iconst 0, 1) := by decide +kernel
theorem dX11_length_17 : decode cX11_length 17 = .ok (.ireturn, 1) := by decide +kernel
theorem dX11_length_18 : decode cX11_length 18 = .ok (.iconst 0, 1) := by decide +kernel
theorem dX11_length_19 : decode cX11_length 19 = .ok (.istore_n 2, 1) := by decide +kernel
theorem dX11_length_20 : decode cX11_length 20 = .ok (.iload_n 2, 1) := by decide +kernel
theorem dX11_length_21 : decode cX11_length 21 = .ok (.aload_n 0, 1) := by decide +kernel
theorem dX11_length_22 : decode cX11_length 22 = .ok (.getfield 122, 3) := by decide +kernel
theorem dX11_length_25 : decode cX11_length 25 = .ok (.if_icmp .ge 20, 3) := by decide +kernel
theorem dX11_length_28 : decode cX11_length 28 = .ok (.aload_n 0, 1) := by decide +kernel
theorem dX11_length_29 : decode cX11_length 29 = .ok (.getfield 23, 3) := by decide +kernel
theorem dX11_length_32 : decode cX11_length 32 = .ok (.iload_n 2, 1) := by decide +kernel
theorem dX11_length_33 : decode cX11_length 33 = .ok (.iaload, 1) := by decide +kernel
theorem dX11_length_34 : decode cX11_length 34 = .ok (.ifCond .le 5, 3) := by decide +kernel
theorem dX11_length_37 : decode cX11_length 37 = .ok (.iconst 0, 1) := by decide +kernel
theorem dX11_length_38 : decode cX11_length 38 = .ok (.ireturn, 1) := by decide +kernel
theorem dX11_length_39 : decode cX11_length 39 = .ok (.iinc 2 1, 3) := by decide +kernel
theorem dX11_length_42 : decode cX11_length 42 = .ok (.goto (-22), 3) := by decide +kernel
theorem dX11_length_45 : decode cX11_length 45 = .ok (.aload_n 0, 1) := by decide +kernel
theorem dX11_length_46 : decode cX11_length 46 = .ok (.iload_n 1, 1) := by decide +kernel
theorem dX11_length_47 : decode cX11_length 47 = .ok (.putfield 32, 3) := by decide +kernel
theorem dX11_length_50 : decode cX11_length 50 = .ok (.iconst 1, 1) := by decide +kernel
theorem dX11_length_51 : decode cX11_length 51 = .ok (.ireturn, 1) := by decide +kernel
theorem dX11_planned_0 : decode cX11_planned 0 = .ok (.iconst 0, 1) := by decide +kernel
theorem dX11_planned_1 : decode cX11_planned 1 = .ok (.istore_n 2, 1) := by decide +kernel
theorem dX11_planned_2 : decode cX11_planned 2 = .ok (.iconst 0, 1) := by decide +kernel
theorem dX11_planned_3 : decode cX11_planned 3 = .ok (.istore_n 3, 1) := by decide +kernel
theorem dX11_planned_4 : decode cX11_planned 4 = .ok (.iload_n 3, 1) := by decide +kernel
theorem dX11_planned_5 : decode cX11_planned 5 = .ok (.aload_n 0, 1) := by decide +kernel
theorem dX11_planned_6 : decode cX11_planned 6 = .ok (.getfield 151, 3) := by decide +kernel
theorem dX11_planned_9 : decode cX11_planned 9 = .ok (.if_icmp .ge 27, 3) := by decide +kernel
theorem dX11_planned_12 : decode cX11_planned 12 = .ok (.iload_n 2, 1) := by decide +kernel
theorem dX11_planned_13 : decode cX11_planned 13 = .ok (.aload_n 0, 1) := by decide +kernel
theorem dX11_planned_14 : decode cX11_planned 14 = .ok (.getfield 43, 3) := by decide +kernel
theorem dX11_planned_17 : decode cX11_planned 17 = .ok (.iload_n 3, 1) := by decide +kernel
theorem dX11_planned_18 : decode cX11_planned 18 = .ok (.aaload, 1) := by decide +kernel
theorem dX11_planned_19 : decode cX11_planned 19 = .ok (.iload_n 1, 1) := by decide +kernel
theorem dX11_planned_20 : decode cX11_planned 20 = .ok (.iaload, 1) := by decide +kernel
theorem dX11_planned_21 : decode cX11_planned 21 = .ok (.aload_n 0, 1) := by decide +kernel
theorem dX11_planned_22 : decode cX11_planned 22 = .ok (.getfield 46, 3) := by decide +kernel
theorem dX11_planned_25 : decode cX11_planned 25 = .ok (.iload_n 3, 1) := by decide +kernel
theorem dX11_planned_26 : decode cX11_planned 26 = .ok (.iaload, 1) := by decide +kernel
theorem dX11_planned_27 : decode cX11_planned 27 = .ok (.imul, 1) := by decide +kernel
theorem dX11_planned_28 : decode cX11_planned 28 = .ok (.iadd, 1) := by decide +kernel
theorem dX11_planned_29 : decode cX11_planned 29 = .ok (.istore_n 2, 1) := by decide +kernel
theorem dX11_planned_30 : decode cX11_planned 30 = .ok (.iinc 3 1, 3) := by decide +kernel
theorem dX11_planned_33 : decode cX11_planned 33 = .ok (.goto (-29), 3) := by decide +kernel
theorem dX11_planned_36 : decode cX11_planned 36 = .ok (.iload_n 2, 1) := by decide +kernel
theorem dX11_planned_37 : decode cX11_planned 37 = .ok (.ireturn, 1) := by decide +kernel
set_option maxRecDepth 20000 in
theorem ggX11_about_X11_isWidth : GoodIn wsX11_about wsX11_isWidth := goodIn_r _ [10, 11, 12, 13, 9, 14, 30, 31, 32, 33, 34, 35, 36, 37, 38, 39, 40, 41, 42, 43, 44, 45, 46, 47, 48, 49, 50, 51, 52, 53, 54, 55, 56, 57, 58, 59, 60, 61, 62, 63, 64, 65, 66, 67, 68, 69, 70, 71] (by decide +kernel) (by decide +kernel)
set_option maxRecDepth 20000 in
theorem gX11_about_X11_isWidth : GoodIn wsX11_about (wsV RX11 157 RX11 yX11_isWidth wsX11_isWidth) := goodIn_app (goodIn_of _ (by decide +kernel)) ggX11_about_X11_isWidth
set_option maxRecDepth 20000 in
theorem ggX11_about_X11_wanted : GoodIn wsX11_about wsX11_wanted := goodIn_r _ [18, 3, 4, 19, 20, 21, 22, 30, 31, 32, 33, 34, 35, 36, 37, 38, 39, 40, 41, 42, 43, 44, 45, 46, 47, 48, 49, 50, 51, 52, 53, 54, 55, 56, 57, 58, 59, 60, 61, 62, 63, 64, 65, 66, 67, 68, 69, 70, 71] (by decide +kernel) (by decide +kernel)
set_option maxRecDepth 20000 in
theorem gX11_about_X11_wanted : GoodIn wsX11_about (wsV RX11 161 RX11 yX11_wanted wsX11_wanted) := goodIn_app (goodIn_of _ (by decide +kernel)) ggX11_about_X11_wanted
set_option maxRecDepth 20000 in
theorem ggX11_about_X11_planned : GoodIn wsX11_about wsX11_planned := goodIn_r _ [26, 27, 28, 29, 30, 31, 32, 33, 34, 35, 36, 37, 38, 39, 40, 41, 42, 43, 44, 45, 46, 47, 48, 49, 50, 51, 52, 53, 54, 55, 56, 57, 58, 59, 60, 61, 62, 63, 64, 65, 66, 67, 68, 69, 70, 71] (by decide +kernel) (by decide +kernel)
set_option maxRecDepth 20000 in
theorem gX11_about_X11_planned : GoodIn wsX11_about (wsV RX11 165 RX11 yX11_planned wsX11_planned) := goodIn_app (goodIn_of _ (by decide +kernel)) ggX11_about_X11_planned
theorem dX11_about_0 : decode cX11_about 0 = .ok (.aload_n 0, 1) := by decide +kernel
theorem dX11_about_1 : decode cX11_about 1 = .ok (.iconst 0, 1) := by decide +kernel
theorem dX11_about_2 : decode cX11_about 2 = .ok (.putfield 99, 3) := by decide +kernel
theorem dX11_about_5 : decode cX11_about 5 = .ok (.aload_n 0, 1) := by decide +kernel
theorem dX11_about_6 : decode cX11_about 6 = .ok (.iload_n 1, 1) := by decide +kernel
theorem dX11_about_7 : decode cX11_about 7 = .ok (.invokevirtual 157, 3) := by decide +kernel
theorem dX11_about_10 : decode cX11_about 10 = .ok (.ifCond .ne 5, 3) := by decide +kernel
theorem dX11_about_13 : decode cX11_about 13 = .ok (.iconst (-1), 1) := by decide +kernel
theorem dX11_about_14 : decode cX11_about 14 = .ok (.ireturn, 1) := by decide +kernel
theorem dX11_about_15 : decode cX11_about 15 = .ok (.iload_n 2, 1) := by decide +kernel
theorem dX11_about_16 : decode cX11_about 16 = .ok (.tableswitch 80 0 5 #[40, 47, 54, 61, 67, 74], 40) := by decide +kernel
theorem dX11_about_56 : decode cX11_about 56 = .ok (.aload_n 0, 1) := by decide +kernel
theorem dX11_about_57 : decode cX11_about 57 = .ok (.getfield 16, 3) := by decide +kernel
theorem dX11_about_60 : decode cX11_about 60 = .ok (.iload_n 1, 1) := by decide +kernel
theorem dX11_about_61 : decode cX11_about 61 = .ok (.iaload, 1) := by decide +kernel
theorem dX11_about_62 : decode cX11_about 62 = .ok (.ireturn, 1) := by decide +kernel
theorem dX11_about_63 : decode cX11_about 63 = .ok (.aload_n 0, 1) := by decide +kernel
theorem dX11_about_64 : decode cX11_about 64 = .ok (.getfield 20, 3) := by decide +kernel
theorem dX11_about_67 : decode cX11_about 67 = .ok (.iload_n 1, 1) := by decide +kernel
theorem dX11_about_68 : decode cX11_about 68 = .ok (.iaload, 1) := by decide +kernel
theorem dX11_about_69 : decode cX11_about 69 = .ok (.ireturn, 1) := by decide +kernel
theorem dX11_about_70 : decode cX11_about 70 = .ok (.aload_n 0, 1) := by decide +kernel
theorem dX11_about_71 : decode cX11_about 71 = .ok (.getfield 23, 3) := by decide +kernel
theorem dX11_about_74 : decode cX11_about 74 = .ok (.iload_n 1, 1) := by decide +kernel
theorem dX11_about_75 : decode cX11_about 75 = .ok (.iaload, 1) := by decide +kernel
theorem dX11_about_76 : decode cX11_about 76 = .ok (.ireturn, 1) := by decide +kernel
theorem dX11_about_77 : decode cX11_about 77 = .ok (.aload_n 0, 1) := by decide +kernel
theorem dX11_about_78 : decode cX11_about 78 = .ok (.iload_n 1, 1) := by decide +kernel
theorem dX11_about_79 : decode cX11_about 79 = .ok (.invokevirtual 161, 3) := by decide +kernel
theorem dX11_about_82 : decode cX11_about 82 = .ok (.ireturn, 1) := by decide +kernel
theorem dX11_about_83 : decode cX11_about 83 = .ok (.aload_n 0, 1) := by decide +kernel
theorem dX11_about_84 : decode cX11_about 84 = .ok (.getfield 26, 3) := by decide +kernel
theorem dX11_about_87 : decode cX11_about 87 = .ok (.iload_n 1, 1) := by decide +kernel
theorem dX11_about_88 : decode cX11_about 88 = .ok (.iaload, 1) := by decide +kernel
theorem dX11_about_89 : decode cX11_about 89 = .ok (.ireturn, 1) := by decide +kernel
theorem dX11_about_90 : decode cX11_about 90 = .ok (.aload_n 0, 1) := by decide +kernel
theorem dX11_about_91 : decode cX11_about 91 = .ok (.iload_n 1, 1) := by decide +kernel
theorem dX11_about_92 : decode cX11_about 92 = .ok (.invokevirtual 165, 3) := by decide +kernel
theorem dX11_about_95 : decode cX11_about 95 = .ok (.ireturn, 1) := by decide +kernel
theorem dX11_about_96 : decode cX11_about 96 = .ok (.iconst (-1), 1) := by decide +kernel
theorem dX11_about_97 : decode cX11_about 97 = .ok (.ireturn, 1) := by decide +kernel
set_option maxRecDepth 20000 in
theorem ggX11_patterns_X11_isNumbered : GoodIn wsX11_patterns wsX11_isNumbered := goodIn_r _ [7, 2, 8, 9, 10, 6, 11, 12, 13, 14, 15, 16, 17, 18, 19, 20, 21, 22, 23, 24, 25, 26, 27, 28, 29, 30, 31, 32, 33, 34, 35, 36, 37, 38, 39, 40, 41, 42, 43, 44, 45, 46, 47, 48, 49, 50, 51, 52, 53, 54, 55, 56, 57, 58, 59, 60, 61, 62, 63, 64, 65, 66, 67, 68, 69] (by decide +kernel) (by decide +kernel)
set_option maxRecDepth 20000 in
theorem gX11_patterns_X11_isNumbered : GoodIn wsX11_patterns (wsV RX11 130 RX11 yX11_isNumbered wsX11_isNumbered) := goodIn_app (goodIn_of _ (by decide +kernel)) ggX11_patterns_X11_isNumbered
theorem dX11_patterns_0 : decode cX11_patterns 0 = .ok (.aload_n 0, 1) := by decide +kernel
theorem dX11_patterns_1 : decode cX11_patterns 1 = .ok (.iconst 0, 1) := by decide +kernel
theorem dX11_patterns_2 : decode cX11_patterns 2 = .ok (.putfield 99, 3) := by decide +kernel
theorem dX11_patterns_5 : decode cX11_patterns 5 = .ok (.aload_n 0, 1) := by decide +kernel
theorem dX11_patterns_6 : decode cX11_patterns 6 = .ok (.invokevirtual 130, 3) := by decide +kernel
theorem dX11_patterns_9 : decode cX11_patterns 9 = .ok (.ifCond .eq 10, 3) := by decide +kernel
theorem dX11_patterns_12 : decode cX11_patterns 12 = .ok (.aload_n 0, 1) := by decide +kernel
theorem dX11_patterns_13 : decode cX11_patterns 13 = .ok (.getfield 112, 3) := by decide +kernel
theorem dX11_patterns_16 : decode cX11_patterns 16 = .ok (.goto 5, 3) := by decide +kernel
theorem dX11_patterns_19 : decode cX11_patterns 19 = .ok (.bipush (-2), 2) := by decide +kernel
theorem dX11_patterns_21 : decode cX11_patterns 21 = .ok (.ireturn, 1) := by decide +kernel
set_option maxRecDepth 20000 in
theorem ggX11_pattern_X11_isPattern : GoodIn wsX11_pattern wsX11_isPattern := goodIn_r _ [9, 10, 11, 12, 13, 8, 14, 15, 16, 17, 18, 19, 4, 20, 21, 22, 23, 24, 25, 26, 3, 27, 28, 29, 30, 31, 32, 33, 34, 35, 62, 63, 64, 65, 66, 67, 68, 69, 70, 71, 72, 73, 74, 75, 76, 77, 78, 79, 80, 81, 82, 83, 84, 85, 86, 87, 88, 89, 90, 91, 92, 93, 94, 95, 96, 97, 98, 99, 100, 101, 102, 103] (by decide +kernel) (by decide +kernel)
set_option maxRecDepth 20000 in
theorem gX11_pattern_X11_isPattern : GoodIn wsX11_pattern (wsV RX11 168 RX11 yX11_isPattern wsX11_isPattern) := goodIn_app (goodIn_of _ (by decide +kernel)) ggX11_pattern_X11_isPattern
set_option maxRecDepth 20000 in
theorem ggX11_pattern_X11_isWidth : GoodIn wsX11_pattern wsX11_isWidth := goodIn_r _ [39, 26, 33, 34, 8, 35, 62, 63, 64, 65, 66, 67, 68, 69, 70, 71, 72, 73, 74, 75, 76, 77, 78, 79, 80, 81, 82, 83, 84, 85, 86, 87, 88, 89, 90, 91, 92, 93, 94, 95, 96, 97, 98, 99, 100, 101, 102, 103] (by decide +kernel) (by decide +kernel)
set_option maxRecDepth 20000 in
theorem gX11_pattern_X11_isWidth : GoodIn wsX11_pattern (wsV RX11 157 RX11 yX11_isWidth wsX11_isWidth) := goodIn_app (goodIn_of _ (by decide +kernel)) ggX11_pattern_X11_isWidth
set_option maxRecDepth 20000 in
theorem ggX11_pattern_X11_sumOf : GoodIn wsX11_pattern wsX11_sumOf := goodIn_r _ [43, 26, 28, 62, 63, 64, 65, 66, 67, 68, 69, 70, 71, 72, 73, 74, 75, 76, 77, 78, 79, 80, 81, 82, 83, 84, 85, 86, 87, 88, 89, 90, 91, 92, 93, 94, 95, 96, 97, 98, 99, 100, 101, 102, 103] (by decide +kernel) (by decide +kernel)
set_option maxRecDepth 20000 in
theorem gX11_pattern_X11_sumOf : GoodIn wsX11_pattern (wsV RX11 173 RX11 yX11_sumOf wsX11_sumOf) := goodIn_app (goodIn_of _ (by decide +kernel)) ggX11_pattern_X11_sumOf
set_option maxRecDepth 20000 in
theorem ggX11_pattern_X11_worthOf : GoodIn wsX11_pattern wsX11_worthOf := goodIn_r _ [47, 26, 48, 62, 63, 64, 65, 66, 67, 68, 69, 70, 71, 72, 73, 74, 75, 76, 77, 78, 79, 80, 81, 82, 83, 84, 85, 86, 87, 88, 89, 90, 91, 92, 93, 94, 95, 96, 97, 98, 99, 100, 101, 102, 103] (by decide +kernel) (by decide +kernel)
set_option maxRecDepth 20000 in
theorem gX11_pattern_X11_worthOf : GoodIn wsX11_pattern (wsV RX11 177 RX11 yX11_worthOf wsX11_worthOf) := goodIn_app (goodIn_of _ (by decide +kernel)) ggX11_pattern_X11_worthOf
set_option maxRecDepth 20000 in
theorem ggX11_pattern_X11_fitsFlawed : GoodIn wsX11_pattern wsX11_fitsFlawed := goodIn_r _ [52, 53, 54, 4, 20, 29, 30, 31, 32, 55, 56, 57, 58, 59, 60, 8, 61, 26, 28, 62, 63, 64, 65, 66, 67, 68, 69, 70, 71, 72, 73, 74, 75, 76, 77, 78, 79, 80, 81, 82, 83, 84, 85, 86, 87, 88, 89, 90, 91, 92, 93, 94, 95, 96, 97, 98, 99, 100, 101, 102, 103] (by decide +kernel) (by decide +kernel)
set_option maxRecDepth 20000 in
theorem gX11_pattern_X11_fitsFlawed : GoodIn wsX11_pattern (wsV RX11 181 RX11 yX11_fitsFlawed wsX11_fitsFlawed) := goodIn_app (goodIn_of _ (by decide +kernel)) ggX11_pattern_X11_fitsFlawed
theorem dX11_pattern_0 : decode cX11_pattern 0 = .ok (.aload_n 0, 1) := by decide +kernel
theorem dX11_pattern_1 : decode cX11_pattern 1 = .ok (.iconst 0, 1) := by decide +kernel
theorem dX11_pattern_2 : decode cX11_pattern 2 = .ok (.putfield 99, 3) := by decide +kernel
theorem dX11_pattern_5 : decode cX11_pattern 5 = .ok (.aload_n 0, 1) := by decide +kernel
theorem dX11_pattern_6 : decode cX11_pattern 6 = .ok (.iload_n 1, 1) := by decide +kernel
theorem dX11_pattern_7 : decode cX11_pattern 7 = .ok (.invokevirtual 168, 3) := by decide +kernel
theorem dX11_pattern_10 : decode cX11_pattern 10 = .ok (.ifCond .ne 7, 3) := by decide +kernel
theorem dX11_pattern_13 : decode cX11_pattern 13 = .ok (.ldc2_w 171, 3) := by decide +kernel
theorem dX11_pattern_16 : decode cX11_pattern 16 = .ok (.lreturn, 1) := by decide +kernel
theorem dX11_pattern_17 : decode cX11_pattern 17 = .ok (.aload_n 0, 1) := by decide +kernel
theorem dX11_pattern_18 : decode cX11_pattern 18 = .ok (.iload_n 2, 1) := by decide +kernel
theorem dX11_pattern_19 : decode cX11_pattern 19 = .ok (.invokevirtual 157, 3) := by decide +kernel
theorem dX11_pattern_22 : decode cX11_pattern 22 = .ok (.ifCond .eq 13, 3) := by decide +kernel
theorem dX11_pattern_25 : decode cX11_pattern 25 = .ok (.aload_n 0, 1) := by decide +kernel
theorem dX11_pattern_26 : decode cX11_pattern 26 = .ok (.getfield 37, 3) := by decide +kernel
theorem dX11_pattern_29 : decode cX11_pattern 29 = .ok (.iload_n 1, 1) := by decide +kernel
theorem dX11_pattern_30 : decode cX11_pattern 30 = .ok (.aaload, 1) := by decide +kernel
theorem dX11_pattern_31 : decode cX11_pattern 31 = .ok (.iload_n 2, 1) := by decide +kernel
theorem dX11_pattern_32 : decode cX11_pattern 32 = .ok (.iaload, 1) := by decide +kernel
theorem dX11_pattern_33 : decode cX11_pattern 33 = .ok (.i2l, 1) := by decide +kernel
theorem dX11_pattern_34 : decode cX11_pattern 34 = .ok (.lreturn, 1) := by decide +kernel
theorem dX11_pattern_35 : decode cX11_pattern 35 = .ok (.iload_n 2, 1) := by decide +kernel
theorem dX11_pattern_36 : decode cX11_pattern 36 = .ok (.tableswitch 75 (-3) (-1) #[56, 45, 28], 28) := by decide +kernel
theorem dX11_pattern_64 : decode cX11_pattern 64 = .ok (.aload_n 0, 1) := by decide +kernel
theorem dX11_pattern_65 : decode cX11_pattern 65 = .ok (.getfield 7, 3) := by decide +kernel
theorem dX11_pattern_68 : decode cX11_pattern 68 = .ok (.aload_n 0, 1) := by decide +kernel
theorem dX11_pattern_69 : decode cX11_pattern 69 = .ok (.aload_n 0, 1) := by decide +kernel
theorem dX11_pattern_70 : decode cX11_pattern 70 = .ok (.getfield 37, 3) := by decide +kernel
theorem dX11_pattern_73 : decode cX11_pattern 73 = .ok (.iload_n 1, 1) := by decide +kernel
theorem dX11_pattern_74 : decode cX11_pattern 74 = .ok (.aaload, 1) := by decide +kernel
theorem dX11_pattern_75 : decode cX11_pattern 75 = .ok (.invokevirtual 173, 3) := by decide +kernel
theorem dX11_pattern_78 : decode cX11_pattern 78 = .ok (.isub, 1) := by decide +kernel
theorem dX11_pattern_79 : decode cX11_pattern 79 = .ok (.i2l, 1) := by decide +kernel
theorem dX11_pattern_80 : decode cX11_pattern 80 = .ok (.lreturn, 1) := by decide +kernel
theorem dX11_pattern_81 : decode cX11_pattern 81 = .ok (.aload_n 0, 1) := by decide +kernel
theorem dX11_pattern_82 : decode cX11_pattern 82 = .ok (.aload_n 0, 1) := by decide +kernel
theorem dX11_pattern_83 : decode cX11_pattern 83 = .ok (.getfield 37, 3) := by decide +kernel
theorem dX11_pattern_86 : decode cX11_pattern 86 = .ok (.iload_n 1, 1) := by decide +kernel
theorem dX11_pattern_87 : decode cX11_pattern 87 = .ok (.aaload, 1) := by decide +kernel
theorem dX11_pattern_88 : decode cX11_pattern 88 = .ok (.invokevirtual 177, 3) := by decide +kernel
theorem dX11_pattern_91 : decode cX11_pattern 91 = .ok (.lreturn, 1) := by decide +kernel
theorem dX11_pattern_92 : decode cX11_pattern 92 = .ok (.aload_n 0, 1) := by decide +kernel
theorem dX11_pattern_93 : decode cX11_pattern 93 = .ok (.aload_n 0, 1) := by decide +kernel
theorem dX11_pattern_94 : decode cX11_pattern 94 = .ok (.getfield 37, 3) := by decide +kernel
theorem dX11_pattern_97 : decode cX11_pattern 97 = .ok (.iload_n 1, 1) := by decide +kernel
theorem dX11_pattern_98 : decode cX11_pattern 98 = .ok (.aaload, 1) := by decide +kernel
theorem dX11_pattern_99 : decode cX11_pattern 99 = .ok (.invokevirtual 181, 3) := by decide +kernel
theorem dX11_pattern_102 : decode cX11_pattern 102 = .ok (.ifCond .eq 7, 3) := by decide +kernel
theorem dX11_pattern_105 : decode cX11_pattern 105 = .ok (.lconst 1, 1) := by decide +kernel
theorem dX11_pattern_106 : decode cX11_pattern 106 = .ok (.goto 4, 3) := by decide +kernel
theorem dX11_pattern_109 : decode cX11_pattern 109 = .ok (.lconst 0, 1) := by decide +kernel
theorem dX11_pattern_110 : decode cX11_pattern 110 = .ok (.lreturn, 1) := by decide +kernel
theorem dX11_pattern_111 : decode cX11_pattern 111 = .ok (.ldc2_w 171, 3) := by decide +kernel
theorem dX11_pattern_114 : decode cX11_pattern 114 = .ok (.lreturn, 1) := by decide +kernel
set_option maxRecDepth 20000 in
theorem ggX11_find_X11_isNumbered : GoodIn wsX11_find wsX11_isNumbered := goodIn_r _ [8, 2, 9, 10, 11, 7, 12, 13, 14, 15, 16, 17, 18, 19, 20, 21, 3, 22, 23, 24, 25, 26, 27, 28, 29, 30, 31, 32, 33, 34, 35, 36, 37, 38, 39, 40, 41, 42, 43, 44, 45, 46, 47, 48, 49, 50, 51, 52, 53, 54, 55, 56, 57, 58, 59, 60, 61, 62, 63, 64, 65, 66, 67, 68, 69] (by decide +kernel) (by decide +kernel)
set_option maxRecDepth 20000 in
theorem gX11_find_X11_isNumbered : GoodIn wsX11_find (wsV RX11 130 RX11 yX11_isNumbered wsX11_isNumbered) := goodIn_app (goodIn_of _ (by decide +kernel)) ggX11_find_X11_isNumbered
theorem dX11_find_0 : decode cX11_find 0 = .ok (.aload_n 0, 1) := by decide +kernel
theorem dX11_find_1 : decode cX11_find 1 = .ok (.iconst 0, 1) := by decide +kernel
theorem dX11_find_2 : decode cX11_find 2 = .ok (.putfield 99, 3) := by decide +kernel
theorem dX11_find_5 : decode cX11_find 5 = .ok (.aload_n 0, 1) := by decide +kernel
theorem dX11_find_6 : decode cX11_find 6 = .ok (.invokevirtual 130, 3) := by decide +kernel
theorem dX11_find_9 : decode cX11_find 9 = .ok (.ifCond .ne 5, 3) := by decide +kernel
theorem dX11_find_12 : decode cX11_find 12 = .ok (.iconst (-1), 1) := by decide +kernel
theorem dX11_find_13 : decode cX11_find 13 = .ok (.ireturn, 1) := by decide +kernel
theorem dX11_find_14 : decode cX11_find 14 = .ok (.iconst 0, 1) := by decide +kernel
theorem dX11_find_15 : decode cX11_find 15 = .ok (.istore 7, 2) := by decide +kernel
theorem dX11_find_17 : decode cX11_find 17 = .ok (.iload 7, 2) := by decide +kernel
theorem dX11_find_19 : decode cX11_find 19 = .ok (.aload_n 0, 1) := by decide +kernel
theorem dX11_find_20 : decode cX11_find 20 = .ok (.getfield 112, 3) := by decide +kernel
theorem dX11_find_23 : decode cX11_find 23 = .ok (.if_icmp .ge 72, 3) := by decide +kernel
theorem dX11_find_26 : decode cX11_find 26 = .ok (.aload_n 0, 1) := by decide +kernel
theorem dX11_find_27 : decode cX11_find 27 = .ok (.getfield 37, 3) := by decide +kernel
theorem dX11_find_30 : decode cX11_find 30 = .ok (.iload 7, 2) := by decide +kernel
theorem dX11_find_32 : decode cX11_find 32 = .ok (.aaload, 1) := by decide +kernel
theorem dX11_find_33 : decode cX11_find 33 = .ok (.astore 8, 2) := by decide +kernel
theorem dX11_find_35 : decode cX11_find 35 = .ok (.aload 8, 2) := by decide +kernel
theorem dX11_find_37 : decode cX11_find 37 = .ok (.iconst 0, 1) := by decide +kernel
theorem dX11_find_38 : decode cX11_find 38 = .ok (.iaload, 1) := by decide +kernel
theorem dX11_find_39 : decode cX11_find 39 = .ok (.iload_n 1, 1) := by decide +kernel
theorem dX11_find_40 : decode cX11_find 40 = .ok (.if_icmp .ne 49, 3) := by decide +kernel
theorem dX11_find_43 : decode cX11_find 43 = .ok (.aload 8, 2) := by decide +kernel
theorem dX11_find_45 : decode cX11_find 45 = .ok (.iconst 1, 1) := by decide +kernel
theorem dX11_find_46 : decode cX11_find 46 = .ok (.iaload, 1) := by decide +kernel
theorem dX11_find_47 : decode cX11_find 47 = .ok (.iload_n 2, 1) := by decide +kernel
theorem dX11_find_48 : decode cX11_find 48 = .ok (.if_icmp .ne 41, 3) := by decide +kernel
theorem dX11_find_51 : decode cX11_find 51 = .ok (.aload 8, 2) := by decide +kernel
theorem dX11_find_53 : decode cX11_find 53 = .ok (.iconst 2, 1) := by decide +kernel
theorem dX11_find_54 : decode cX11_find 54 = .ok (.iaload, 1) := by decide +kernel
theorem dX11_find_55 : decode cX11_find 55 = .ok (.iload_n 3, 1) := by decide +kernel
theorem dX11_find_56 : decode cX11_find 56 = .ok (.if_icmp .ne 33, 3) := by decide +kernel
theorem dX11_find_59 : decode cX11_find 59 = .ok (.aload 8, 2) := by decide +kernel
theorem dX11_find_61 : decode cX11_find 61 = .ok (.iconst 3, 1) := by decide +kernel
theorem dX11_find_62 : decode cX11_find 62 = .ok (.iaload, 1) := by decide +kernel
theorem dX11_find_63 : decode cX11_find 63 = .ok (.iload 4, 2) := by decide +kernel
theorem dX11_find_65 : decode cX11_find 65 = .ok (.if_icmp .ne 24, 3) := by decide +kernel
theorem dX11_find_68 : decode cX11_find 68 = .ok (.aload 8, 2) := by decide +kernel
theorem dX11_find_70 : decode cX11_find 70 = .ok (.iconst 4, 1) := by decide +kernel
theorem dX11_find_71 : decode cX11_find 71 = .ok (.iaload, 1) := by decide +kernel
theorem dX11_find_72 : decode cX11_find 72 = .ok (.iload 5, 2) := by decide +kernel
theorem dX11_find_74 : decode cX11_find 74 = .ok (.if_icmp .ne 15, 3) := by decide +kernel
theorem dX11_find_77 : decode cX11_find 77 = .ok (.aload 8, 2) := by decide +kernel
theorem dX11_find_79 : decode cX11_find 79 = .ok (.iconst 5, 1) := by decide +kernel
theorem dX11_find_80 : decode cX11_find 80 = .ok (.iaload, 1) := by decide +kernel
theorem dX11_find_81 : decode cX11_find 81 = .ok (.iload 6, 2) := by decide +kernel
theorem dX11_find_83 : decode cX11_find 83 = .ok (.if_icmp .ne 6, 3) := by decide +kernel
theorem dX11_find_86 : decode cX11_find 86 = .ok (.iload 7, 2) := by decide +kernel
theorem dX11_find_88 : decode cX11_find 88 = .ok (.ireturn, 1) := by decide +kernel
theorem dX11_find_89 : decode cX11_find 89 = .ok (.iinc 7 1, 3) := by decide +kernel
theorem dX11_find_92 : decode cX11_find 92 = .ok (.goto (-75), 3) := by decide +kernel
theorem dX11_find_95 : decode cX11_find 95 = .ok (.iconst (-1), 1) := by decide +kernel
theorem dX11_find_96 : decode cX11_find 96 = .ok (.ireturn, 1) := by decide +kernel
set_option maxRecDepth 20000 in
theorem ggX11_price_X11_in : GoodIn wsX11_price wsX11_in := goodIn_r _ [8] (by decide +kernel) (by decide +kernel)
set_option maxRecDepth 20000 in
theorem gX11_price_X11_in : GoodIn wsX11_price (va_wsS RX11 134 yX11_in wsX11_in) := goodIn_app (goodIn_of _ (by decide +kernel)) ggX11_price_X11_in
set_option maxRecDepth 20000 in
theorem ggX11_price_X11_isWidth : GoodIn wsX11_price wsX11_isWidth := goodIn_r _ [12, 13, 5, 6, 7, 8, 14, 15, 16, 17, 18, 19, 20, 21, 22, 23, 24, 25, 26, 27, 28, 29, 30, 31, 32, 33, 34, 35, 36, 37, 38, 39, 40, 41, 42, 43, 44, 45, 46, 47, 48, 49, 50, 51, 52, 53, 54, 55] (by decide +kernel) (by decide +kernel)
set_option maxRecDepth 20000 in
theorem gX11_price_X11_isWidth : GoodIn wsX11_price (wsV RX11 157 RX11 yX11_isWidth wsX11_isWidth) := goodIn_app (goodIn_of _ (by decide +kernel)) ggX11_price_X11_isWidth
theorem dX11_price_0 : decode cX11_price 0 = .ok (.aload_n 0, 1) := by decide +kernel
theorem dX11_price_1 : decode cX11_price 1 = .ok (.iconst 0, 1) := by decide +kernel
theorem dX11_price_2 : decode cX11_price 2 = .ok (.putfield 99, 3) := by decide +kernel
theorem dX11_price_5 : decode cX11_price 5 = .ok (.iload_n 1, 1) := by decide +kernel
theorem dX11_price_6 : decode cX11_price 6 = .ok (.iconst (-1), 1) := by decide +kernel
theorem dX11_price_7 : decode cX11_price 7 = .ok (.if_icmp .ne 22, 3) := by decide +kernel
theorem dX11_price_10 : decode cX11_price 10 = .ok (.iload_n 2, 1) := by decide +kernel
theorem dX11_price_11 : decode cX11_price 11 = .ok (.iconst 1, 1) := by decide +kernel
theorem dX11_price_12 : decode cX11_price 12 = .ok (.ldc 185, 2) := by decide +kernel
theorem dX11_price_14 : decode cX11_price 14 = .ok (.invokestatic 134, 3) := by decide +kernel
theorem dX11_price_17 : decode cX11_price 17 = .ok (.ifCond .ne 5, 3) := by decide +kernel
theorem dX11_price_20 : decode cX11_price 20 = .ok (.iconst 0, 1) := by decide +kernel
theorem dX11_price_21 : decode cX11_price 21 = .ok (.ireturn, 1) := by decide +kernel
theorem dX11_price_22 : decode cX11_price 22 = .ok (.aload_n 0, 1) := by decide +kernel
theorem dX11_price_23 : decode cX11_price 23 = .ok (.iload_n 2, 1) := by decide +kernel
theorem dX11_price_24 : decode cX11_price 24 = .ok (.putfield 29, 3) := by decide +kernel
theorem dX11_price_27 : decode cX11_price 27 = .ok (.iconst 1, 1) := by decide +kernel
theorem dX11_price_28 : decode cX11_price 28 = .ok (.ireturn, 1) := by decide +kernel
theorem dX11_price_29 : decode cX11_price 29 = .ok (.aload_n 0, 1) := by decide +kernel
theorem dX11_price_30 : decode cX11_price 30 = .ok (.iload_n 1, 1) := by decide +kernel
theorem dX11_price_31 : decode cX11_price 31 = .ok (.invokevirtual 157, 3) := by decide +kernel
theorem dX11_price_34 : decode cX11_price 34 = .ok (.ifCond .eq 13, 3) := by decide +kernel
theorem dX11_price_37 : decode cX11_price 37 = .ok (.iload_n 2, 1) := by decide +kernel
theorem dX11_price_38 : decode cX11_price 38 = .ok (.iconst 0, 1) := by decide +kernel
theorem dX11_price_39 : decode cX11_price 39 = .ok (.ldc 185, 2) := by decide +kernel
theorem dX11_price_41 : decode cX11_price 41 = .ok (.invokestatic 134, 3) := by decide +kernel
theorem dX11_price_44 : decode cX11_price 44 = .ok (.ifCond .ne 5, 3) := by decide +kernel
theorem dX11_price_47 : decode cX11_price 47 = .ok (.iconst 0, 1) := by decide +kernel
theorem dX11_price_48 : decode cX11_price 48 = .ok (.ireturn, 1) := by decide +kernel
theorem dX11_price_49 : decode cX11_price 49 = .ok (.aload_n 0, 1) := by decide +kernel
theorem dX11_price_50 : decode cX11_price 50 = .ok (.getfield 26, 3) := by decide +kernel
theorem dX11_price_53 : decode cX11_price 53 = .ok (.iload_n 1, 1) := by decide +kernel
theorem dX11_price_54 : decode cX11_price 54 = .ok (.iload_n 2, 1) := by decide +kernel
theorem dX11_price_55 : decode cX11_price 55 = .ok (.iastore, 1) := by decide +kernel
theorem dX11_price_56 : decode cX11_price 56 = .ok (.iconst 1, 1) := by decide +kernel
theorem dX11_price_57 : decode cX11_price 57 = .ok (.ireturn, 1) := by decide +kernel
set_option maxRecDepth 20000 in
theorem ggX11_bestOf_X11_worthOf : GoodIn wsX11_bestOf wsX11_worthOf := goodIn_r _ [7, 8, 9, 10, 11, 12, 13, 14, 15, 16, 17, 18, 19, 20, 21, 22, 23, 24, 25, 26, 27, 28, 29, 30, 31, 32, 33, 34, 35, 36, 37, 38, 39, 40, 41, 42, 43, 44, 45, 46, 47, 48, 49, 50, 51] (by decide +kernel) (by decide +kernel)
set_option maxRecDepth 20000 in
theorem gX11_bestOf_X11_worthOf : GoodIn wsX11_bestOf (wsV RX11 177 RX11 yX11_worthOf wsX11_worthOf) := goodIn_app (goodIn_of _ (by decide +kernel)) ggX11_bestOf_X11_worthOf
theorem dX11_bestOf_0 : decode cX11_bestOf 0 = .ok (.iconst (-1), 1) := by decide +kernel
theorem dX11_bestOf_1 : decode cX11_bestOf 1 = .ok (.istore_n 1, 1) := by decide +kernel
theorem dX11_bestOf_2 : decode cX11_bestOf 2 = .ok (.iconst 0, 1) := by decide +kernel
theorem dX11_bestOf_3 : decode cX11_bestOf 3 = .ok (.istore_n 2, 1) := by decide +kernel
theorem dX11_bestOf_4 : decode cX11_bestOf 4 = .ok (.iload_n 2, 1) := by decide +kernel
theorem dX11_bestOf_5 : decode cX11_bestOf 5 = .ok (.aload_n 0, 1) := by decide +kernel
theorem dX11_bestOf_6 : decode cX11_bestOf 6 = .ok (.getfield 112, 3) := by decide +kernel
theorem dX11_bestOf_9 : decode cX11_bestOf 9 = .ok (.if_icmp .ge 40, 3) := by decide +kernel
theorem dX11_bestOf_12 : decode cX11_bestOf 12 = .ok (.iload_n 1, 1) := by decide +kernel
theorem dX11_bestOf_13 : decode cX11_bestOf 13 = .ok (.iconst (-1), 1) := by decide +kernel
theorem dX11_bestOf_14 : decode cX11_bestOf 14 = .ok (.if_icmp .eq 27, 3) := by decide +kernel
theorem dX11_bestOf_17 : decode cX11_bestOf 17 = .ok (.aload_n 0, 1) := by decide +kernel
theorem dX11_bestOf_18 : decode cX11_bestOf 18 = .ok (.aload_n 0, 1) := by decide +kernel
theorem dX11_bestOf_19 : decode cX11_bestOf 19 = .ok (.getfield 37, 3) := by decide +kernel
theorem dX11_bestOf_22 : decode cX11_bestOf 22 = .ok (.iload_n 2, 1) := by decide +kernel
theorem dX11_bestOf_23 : decode cX11_bestOf 23 = .ok (.aaload, 1) := by decide +kernel
theorem dX11_bestOf_24 : decode cX11_bestOf 24 = .ok (.invokevirtual 177, 3) := by decide +kernel
theorem dX11_bestOf_27 : decode cX11_bestOf 27 = .ok (.aload_n 0, 1) := by decide +kernel
theorem dX11_bestOf_28 : decode cX11_bestOf 28 = .ok (.aload_n 0, 1) := by decide +kernel
theorem dX11_bestOf_29 : decode cX11_bestOf 29 = .ok (.getfield 37, 3) := by decide +kernel
theorem dX11_bestOf_32 : decode cX11_bestOf 32 = .ok (.iload_n 1, 1) := by decide +kernel
theorem dX11_bestOf_33 : decode cX11_bestOf 33 = .ok (.aaload, 1) := by decide +kernel
theorem dX11_bestOf_34 : decode cX11_bestOf 34 = .ok (.invokevirtual 177, 3) := by decide +kernel
theorem dX11_bestOf_37 : decode cX11_bestOf 37 = .ok (.lcmp, 1) := by decide +kernel
theorem dX11_bestOf_38 : decode cX11_bestOf 38 = .ok (.ifCond .le 5, 3) := by decide +kernel
theorem dX11_bestOf_41 : decode cX11_bestOf 41 = .ok (.iload_n 2, 1) := by decide +kernel
theorem dX11_bestOf_42 : decode cX11_bestOf 42 = .ok (.istore_n 1, 1) := by decide +kernel
theorem dX11_bestOf_43 : decode cX11_bestOf 43 = .ok (.iinc 2 1, 3) := by decide +kernel
theorem dX11_bestOf_46 : decode cX11_bestOf 46 = .ok (.goto (-42), 3) := by decide +kernel
theorem dX11_bestOf_49 : decode cX11_bestOf 49 = .ok (.iload_n 1, 1) := by decide +kernel
theorem dX11_bestOf_50 : decode cX11_bestOf 50 = .ok (.ireturn, 1) := by decide +kernel
set_option maxRecDepth 20000 in
theorem ggX11_best_X11_isNumbered : GoodIn wsX11_best wsX11_isNumbered := goodIn_r _ [6, 7, 8, 9, 10, 5, 11, 12, 13, 14, 15, 16, 17, 18, 19, 20, 21, 22, 23, 24, 25, 26, 27, 37, 38, 39, 40, 41, 42, 43, 44, 45, 46, 47, 48, 49, 50, 51, 52, 53, 54, 55, 56, 57, 58, 59, 60, 61, 62, 63, 64, 65, 66, 67, 68, 69, 70, 71, 72, 73, 74, 75, 76, 77, 78] (by decide +kernel) (by decide +kernel)
set_option maxRecDepth 20000 in
theorem gX11_best_X11_isNumbered : GoodIn wsX11_best (wsV RX11 130 RX11 yX11_isNumbered wsX11_isNumbered) := goodIn_app (goodIn_of _ (by decide +kernel)) ggX11_best_X11_isNumbered
set_option maxRecDepth 20000 in
theorem ggX11_best_X11_bestOf : GoodIn wsX11_best wsX11_bestOf := goodIn_r _ [31, 7, 21, 32, 33, 34, 5, 35, 20, 36, 37, 38, 39, 40, 41, 42, 43, 44, 45, 46, 47, 48, 49, 50, 51, 52, 53, 54, 55, 56, 57, 58, 59, 60, 61, 62, 63, 64, 65, 66, 67, 68, 69, 70, 71, 72, 73, 74, 75, 76, 77, 78] (by decide +kernel) (by decide +kernel)
set_option maxRecDepth 20000 in
theorem gX11_best_X11_bestOf : GoodIn wsX11_best (wsV RX11 186 RX11 yX11_bestOf wsX11_bestOf) := goodIn_app (goodIn_of _ (by decide +kernel)) ggX11_best_X11_bestOf
theorem dX11_best_0 : decode cX11_best 0 = .ok (.aload_n 0, 1) := by decide +kernel
theorem dX11_best_1 : decode cX11_best 1 = .ok (.iconst 0, 1) := by decide +kernel
theorem dX11_best_2 : decode cX11_best 2 = .ok (.putfield 99, 3) := by decide +kernel
theorem dX11_best_5 : decode cX11_best 5 = .ok (.aload_n 0, 1) := by decide +kernel
theorem dX11_best_6 : decode cX11_best 6 = .ok (.invokevirtual 130, 3) := by decide +kernel
theorem dX11_best_9 : decode cX11_best 9 = .ok (.ifCond .eq 10, 3) := by decide +kernel
theorem dX11_best_12 : decode cX11_best 12 = .ok (.aload_n 0, 1) := by decide +kernel
theorem dX11_best_13 : decode cX11_best 13 = .ok (.invokevirtual 186, 3) := by decide +kernel
theorem dX11_best_16 : decode cX11_best 16 = .ok (.goto 4, 3) := by decide +kernel
theorem dX11_best_19 : decode cX11_best 19 = .ok (.iconst (-1), 1) := by decide +kernel
theorem dX11_best_20 : decode cX11_best 20 = .ok (.ireturn, 1) := by decide +kernel
set_option maxRecDepth 20000 in
theorem ggX11_bound_X11_isNumbered : GoodIn wsX11_bound wsX11_isNumbered := goodIn_r _ [10, 11, 12, 13, 14, 9, 15, 16, 17, 18, 19, 20, 21, 22, 23, 4, 2, 24, 25, 26, 27, 28, 29, 47, 48, 49, 50, 51, 52, 53, 54, 55, 56, 57, 58, 59, 60, 61, 62, 63, 64, 65, 66, 67, 68, 69, 70, 71, 72, 73, 74, 75, 76, 77, 78, 79, 80, 81, 82, 83, 84, 85, 86, 87, 88] (by decide +kernel) (by decide +kernel)
set_option maxRecDepth 20000 in
theorem gX11_bound_X11_isNumbered : GoodIn wsX11_bound (wsV RX11 130 RX11 yX11_isNumbered wsX11_isNumbered) := goodIn_app (goodIn_of _ (by decide +kernel)) ggX11_bound_X11_isNumbered
set_option maxRecDepth 20000 in
theorem ggX11_bound_X11_bestOf : GoodIn wsX11_bound wsX11_bestOf := goodIn_r _ [33, 11, 2, 34, 35, 36, 9, 37, 4, 5, 47, 48, 49, 50, 51, 52, 53, 54, 55, 56, 57, 58, 59, 60, 61, 62, 63, 64, 65, 66, 67, 68, 69, 70, 71, 72, 73, 74, 75, 76, 77, 78, 79, 80, 81, 82, 83, 84, 85, 86, 87, 88] (by decide +kernel) (by decide +kernel)
set_option maxRecDepth 20000 in
theorem gX11_bound_X11_bestOf : GoodIn wsX11_bound (wsV RX11 186 RX11 yX11_bestOf wsX11_bestOf) := goodIn_app (goodIn_of _ (by decide +kernel)) ggX11_bound_X11_bestOf
set_option maxRecDepth 20000 in
theorem ggX11_bound_X11_worthOf : GoodIn wsX11_bound wsX11_worthOf := goodIn_r _ [37, 4, 5, 47, 48, 49, 50, 51, 52, 53, 54, 55, 56, 57, 58, 59, 60, 61, 62, 63, 64, 65, 66, 67, 68, 69, 70, 71, 72, 73, 74, 75, 76, 77, 78, 79, 80, 81, 82, 83, 84, 85, 86, 87, 88] (by decide +kernel) (by decide +kernel)
set_option maxRecDepth 20000 in
theorem gX11_bound_X11_worthOf : GoodIn wsX11_bound (wsV RX11 177 RX11 yX11_worthOf wsX11_worthOf) := goodIn_app (goodIn_of _ (by decide +kernel)) ggX11_bound_X11_worthOf
set_option maxRecDepth 20000 in
theorem ggX11_bound_X11_wanted : GoodIn wsX11_bound wsX11_wanted := goodIn_r _ [41, 42, 43, 44, 45, 28, 46, 47, 48, 49, 50, 51, 52, 53, 54, 55, 56, 57, 58, 59, 60, 61, 62, 63, 64, 65, 66, 67, 68, 69, 70, 71, 72, 73, 74, 75, 76, 77, 78, 79, 80, 81, 82, 83, 84, 85, 86, 87, 88] (by decide +kernel) (by decide +kernel)
set_option maxRecDepth 20000 in
theorem gX11_bound_X11_wanted : GoodIn wsX11_bound (wsV RX11 161 RX11 yX11_wanted wsX11_wanted) := goodIn_app (goodIn_of _ (by decide +kernel)) ggX11_bound_X11_wanted
theorem dX11_bound_0 : decode cX11_bound 0 = .ok (.aload_n 0, 1) := by decide +kernel
theorem dX11_bound_1 : decode cX11_bound 1 = .ok (.iconst 0, 1) := by decide +kernel
theorem dX11_bound_2 : decode cX11_bound 2 = .ok (.putfield 99, 3) := by decide +kernel
theorem dX11_bound_5 : decode cX11_bound 5 = .ok (.aload_n 0, 1) := by decide +kernel
theorem dX11_bound_6 : decode cX11_bound 6 = .ok (.invokevirtual 130, 3) := by decide +kernel
theorem dX11_bound_9 : decode cX11_bound 9 = .ok (.ifCond .ne 5, 3) := by decide +kernel
theorem dX11_bound_12 : decode cX11_bound 12 = .ok (.iconst (-1), 1) := by decide +kernel
theorem dX11_bound_13 : decode cX11_bound 13 = .ok (.ireturn, 1) := by decide +kernel
theorem dX11_bound_14 : decode cX11_bound 14 = .ok (.aload_n 0, 1) := by decide +kernel
theorem dX11_bound_15 : decode cX11_bound 15 = .ok (.invokevirtual 186, 3) := by decide +kernel
theorem dX11_bound_18 : decode cX11_bound 18 = .ok (.istore_n 1, 1) := by decide +kernel
theorem dX11_bound_19 : decode cX11_bound 19 = .ok (.iload_n 1, 1) := by decide +kernel
theorem dX11_bound_20 : decode cX11_bound 20 = .ok (.iconst (-1), 1) := by decide +kernel
theorem dX11_bound_21 : decode cX11_bound 21 = .ok (.if_icmp .eq 24, 3) := by decide +kernel
theorem dX11_bound_24 : decode cX11_bound 24 = .ok (.aload_n 0, 1) := by decide +kernel
theorem dX11_bound_25 : decode cX11_bound 25 = .ok (.aload_n 0, 1) := by decide +kernel
theorem dX11_bound_26 : decode cX11_bound 26 = .ok (.getfield 37, 3) := by decide +kernel
theorem dX11_bound_29 : decode cX11_bound 29 = .ok (.iload_n 1, 1) := by decide +kernel
theorem dX11_bound_30 : decode cX11_bound 30 = .ok (.aaload, 1) := by decide +kernel
theorem dX11_bound_31 : decode cX11_bound 31 = .ok (.invokevirtual 177, 3) := by decide +kernel
theorem dX11_bound_34 : decode cX11_bound 34 = .ok (.aload_n 0, 1) := by decide +kernel
theorem dX11_bound_35 : decode cX11_bound 35 = .ok (.getfield 29, 3) := by decide +kernel
theorem dX11_bound_38 : decode cX11_bound 38 = .ok (.i2l, 1) := by decide +kernel
theorem dX11_bound_39 : decode cX11_bound 39 = .ok (.lcmp, 1) := by decide +kernel
theorem dX11_bound_40 : decode cX11_bound 40 = .ok (.ifCond .le 5, 3) := by decide +kernel
theorem dX11_bound_43 : decode cX11_bound 43 = .ok (.iconst (-1), 1) := by decide +kernel
theorem dX11_bound_44 : decode cX11_bound 44 = .ok (.ireturn, 1) := by decide +kernel
theorem dX11_bound_45 : decode cX11_bound 45 = .ok (.lconst 0, 1) := by decide +kernel
theorem dX11_bound_46 : decode cX11_bound 46 = .ok (.lstore_n 2, 1) := by decide +kernel
theorem dX11_bound_47 : decode cX11_bound 47 = .ok (.iconst 0, 1) := by decide +kernel
theorem dX11_bound_48 : decode cX11_bound 48 = .ok (.istore 4, 2) := by decide +kernel
theorem dX11_bound_50 : decode cX11_bound 50 = .ok (.iload 4, 2) := by decide +kernel
theorem dX11_bound_52 : decode cX11_bound 52 = .ok (.aload_n 0, 1) := by decide +kernel
theorem dX11_bound_53 : decode cX11_bound 53 = .ok (.getfield 122, 3) := by decide +kernel
theorem dX11_bound_56 : decode cX11_bound 56 = .ok (.if_icmp .ge 28, 3) := by decide +kernel
theorem dX11_bound_59 : decode cX11_bound 59 = .ok (.lload_n 2, 1) := by decide +kernel
theorem dX11_bound_60 : decode cX11_bound 60 = .ok (.aload_n 0, 1) := by decide +kernel
theorem dX11_bound_61 : decode cX11_bound 61 = .ok (.iload 4, 2) := by decide +kernel
theorem dX11_bound_63 : decode cX11_bound 63 = .ok (.invokevirtual 161, 3) := by decide +kernel
theorem dX11_bound_66 : decode cX11_bound 66 = .ok (.i2l, 1) := by decide +kernel
theorem dX11_bound_67 : decode cX11_bound 67 = .ok (.aload_n 0, 1) := by decide +kernel
theorem dX11_bound_68 : decode cX11_bound 68 = .ok (.getfield 26, 3) := by decide +kernel
theorem dX11_bound_71 : decode cX11_bound 71 = .ok (.iload 4, 2) := by decide +kernel
theorem dX11_bound_73 : decode cX11_bound 73 = .ok (.iaload, 1) := by decide +kernel
theorem dX11_bound_74 : decode cX11_bound 74 = .ok (.i2l, 1) := by decide +kernel
theorem dX11_bound_75 : decode cX11_bound 75 = .ok (.lmul, 1) := by decide +kernel
theorem dX11_bound_76 : decode cX11_bound 76 = .ok (.ladd, 1) := by decide +kernel
theorem dX11_bound_77 : decode cX11_bound 77 = .ok (.lstore_n 2, 1) := by decide +kernel
theorem dX11_bound_78 : decode cX11_bound 78 = .ok (.iinc 4 1, 3) := by decide +kernel
theorem dX11_bound_81 : decode cX11_bound 81 = .ok (.goto (-31), 3) := by decide +kernel
theorem dX11_bound_84 : decode cX11_bound 84 = .ok (.lload_n 2, 1) := by decide +kernel
theorem dX11_bound_85 : decode cX11_bound 85 = .ok (.aload_n 0, 1) := by decide +kernel
theorem dX11_bound_86 : decode cX11_bound 86 = .ok (.getfield 29, 3) := by decide +kernel
theorem dX11_bound_89 : decode cX11_bound 89 = .ok (.i2l, 1) := by decide +kernel
theorem dX11_bound_90 : decode cX11_bound 90 = .ok (.ladd, 1) := by decide +kernel
theorem dX11_bound_91 : decode cX11_bound 91 = .ok (.lconst 1, 1) := by decide +kernel
theorem dX11_bound_92 : decode cX11_bound 92 = .ok (.lsub, 1) := by decide +kernel
theorem dX11_bound_93 : decode cX11_bound 93 = .ok (.aload_n 0, 1) := by decide +kernel
theorem dX11_bound_94 : decode cX11_bound 94 = .ok (.getfield 29, 3) := by decide +kernel
theorem dX11_bound_97 : decode cX11_bound 97 = .ok (.i2l, 1) := by decide +kernel
theorem dX11_bound_98 : decode cX11_bound 98 = .ok (.ldiv, 1) := by decide +kernel
theorem dX11_bound_99 : decode cX11_bound 99 = .ok (.l2i, 1) := by decide +kernel
theorem dX11_bound_100 : decode cX11_bound 100 = .ok (.ireturn, 1) := by decide +kernel
theorem dX11_copy_0 : decode cX11_copy 0 = .ok (.iconst 0, 1) := by decide +kernel
theorem dX11_copy_1 : decode cX11_copy 1 = .ok (.istore 5, 2) := by decide +kernel
theorem dX11_copy_3 : decode cX11_copy 3 = .ok (.iload 5, 2) := by decide +kernel
theorem dX11_copy_5 : decode cX11_copy 5 = .ok (.iload_n 2, 1) := by decide +kernel
theorem dX11_copy_6 : decode cX11_copy 6 = .ok (.if_icmp .ge 48, 3) := by decide +kernel
theorem dX11_copy_9 : decode cX11_copy 9 = .ok (.iconst 0, 1) := by decide +kernel
theorem dX11_copy_10 : decode cX11_copy 10 = .ok (.istore 6, 2) := by decide +kernel
theorem dX11_copy_12 : decode cX11_copy 12 = .ok (.iload 6, 2) := by decide +kernel
theorem dX11_copy_14 : decode cX11_copy 14 = .ok (.bipush 6, 2) := by decide +kernel
theorem dX11_copy_16 : decode cX11_copy 16 = .ok (.if_icmp .ge 23, 3) := by decide +kernel
theorem dX11_copy_19 : decode cX11_copy 19 = .ok (.aload_n 3, 1) := by decide +kernel
theorem dX11_copy_20 : decode cX11_copy 20 = .ok (.iload 5, 2) := by decide +kernel
theorem dX11_copy_22 : decode cX11_copy 22 = .ok (.aaload, 1) := by decide +kernel
theorem dX11_copy_23 : decode cX11_copy 23 = .ok (.iload 6, 2) := by decide +kernel
theorem dX11_copy_25 : decode cX11_copy 25 = .ok (.aload_n 0, 1) := by decide +kernel
theorem dX11_copy_26 : decode cX11_copy 26 = .ok (.iload 5, 2) := by decide +kernel
theorem dX11_copy_28 : decode cX11_copy 28 = .ok (.aaload, 1) := by decide +kernel
theorem dX11_copy_29 : decode cX11_copy 29 = .ok (.iload 6, 2) := by decide +kernel
theorem dX11_copy_31 : decode cX11_copy 31 = .ok (.iaload, 1) := by decide +kernel
theorem dX11_copy_32 : decode cX11_copy 32 = .ok (.iastore, 1) := by decide +kernel
theorem dX11_copy_33 : decode cX11_copy 33 = .ok (.iinc 6 1, 3) := by decide +kernel
theorem dX11_copy_36 : decode cX11_copy 36 = .ok (.goto (-24), 3) := by decide +kernel
theorem dX11_copy_39 : decode cX11_copy 39 = .ok (.aload 4, 2) := by decide +kernel
theorem dX11_copy_41 : decode cX11_copy 41 = .ok (.iload 5, 2) := by decide +kernel
theorem dX11_copy_43 : decode cX11_copy 43 = .ok (.aload_n 1, 1) := by decide +kernel
theorem dX11_copy_44 : decode cX11_copy 44 = .ok (.iload 5, 2) := by decide +kernel
theorem dX11_copy_46 : decode cX11_copy 46 = .ok (.iaload, 1) := by decide +kernel
theorem dX11_copy_47 : decode cX11_copy 47 = .ok (.iastore, 1) := by decide +kernel
theorem dX11_copy_48 : decode cX11_copy 48 = .ok (.iinc 5 1, 3) := by decide +kernel
theorem dX11_copy_51 : decode cX11_copy 51 = .ok (.goto (-48), 3) := by decide +kernel
theorem dX11_copy_54 : decode cX11_copy 54 = .ok (.return_, 1) := by decide +kernel
theorem dX11_rolls_0 : decode cX11_rolls 0 = .ok (.aload_n 0, 1) := by decide +kernel
theorem dX11_rolls_1 : decode cX11_rolls 1 = .ok (.getfield 190, 3) := by decide +kernel
theorem dX11_rolls_4 : decode cX11_rolls 4 = .ok (.ifCond .le 7, 3) := by decide +kernel
theorem dX11_rolls_7 : decode cX11_rolls 7 = .ok (.iconst 1, 1) := by decide +kernel
theorem dX11_rolls_8 : decode cX11_rolls 8 = .ok (.goto 4, 3) := by decide +kernel
theorem dX11_rolls_11 : decode cX11_rolls 11 = .ok (.iconst 0, 1) := by decide +kernel
theorem dX11_rolls_12 : decode cX11_rolls 12 = .ok (.istore_n 2, 1) := by decide +kernel
theorem dX11_rolls_13 : decode cX11_rolls 13 = .ok (.iconst 0, 1) := by decide +kernel
theorem dX11_rolls_14 : decode cX11_rolls 14 = .ok (.istore_n 3, 1) := by decide +kernel
theorem dX11_rolls_15 : decode cX11_rolls 15 = .ok (.iload_n 3, 1) := by decide +kernel
theorem dX11_rolls_16 : decode cX11_rolls 16 = .ok (.bipush 6, 2) := by decide +kernel
theorem dX11_rolls_18 : decode cX11_rolls 18 = .ok (.if_icmp .ge 38, 3) := by decide +kernel
theorem dX11_rolls_21 : decode cX11_rolls 21 = .ok (.iload_n 2, 1) := by decide +kernel
theorem dX11_rolls_22 : decode cX11_rolls 22 = .ok (.ifCond .eq 34, 3) := by decide +kernel
theorem dX11_rolls_25 : decode cX11_rolls 25 = .ok (.aload_n 0, 1) := by decide +kernel
theorem dX11_rolls_26 : decode cX11_rolls 26 = .ok (.getfield 49, 3) := by decide +kernel
theorem dX11_rolls_29 : decode cX11_rolls 29 = .ok (.aload_n 0, 1) := by decide +kernel
theorem dX11_rolls_30 : decode cX11_rolls 30 = .ok (.getfield 190, 3) := by decide +kernel
theorem dX11_rolls_33 : decode cX11_rolls 33 = .ok (.iconst 1, 1) := by decide +kernel
theorem dX11_rolls_34 : decode cX11_rolls 34 = .ok (.isub, 1) := by decide +kernel
theorem dX11_rolls_35 : decode cX11_rolls 35 = .ok (.aaload, 1) := by decide +kernel
theorem dX11_rolls_36 : decode cX11_rolls 36 = .ok (.iload_n 3, 1) := by decide +kernel
theorem dX11_rolls_37 : decode cX11_rolls 37 = .ok (.iaload, 1) := by decide +kernel
theorem dX11_rolls_38 : decode cX11_rolls 38 = .ok (.aload_n 1, 1) := by decide +kernel
theorem dX11_rolls_39 : decode cX11_rolls 39 = .ok (.iload_n 3, 1) := by decide +kernel
theorem dX11_rolls_40 : decode cX11_rolls 40 = .ok (.iaload, 1) := by decide +kernel
theorem dX11_rolls_41 : decode cX11_rolls 41 = .ok (.if_icmp .ne 7, 3) := by decide +kernel
theorem dX11_rolls_44 : decode cX11_rolls 44 = .ok (.iconst 1, 1) := by decide +kernel
theorem dX11_rolls_45 : decode cX11_rolls 45 = .ok (.goto 4, 3) := by decide +kernel
theorem dX11_rolls_48 : decode cX11_rolls 48 = .ok (.iconst 0, 1) := by decide +kernel
theorem dX11_rolls_49 : decode cX11_rolls 49 = .ok (.istore_n 2, 1) := by decide +kernel
theorem dX11_rolls_50 : decode cX11_rolls 50 = .ok (.iinc 3 1, 3) := by decide +kernel
theorem dX11_rolls_53 : decode cX11_rolls 53 = .ok (.goto (-38), 3) := by decide +kernel
theorem dX11_rolls_56 : decode cX11_rolls 56 = .ok (.iload_n 2, 1) := by decide +kernel
theorem dX11_rolls_57 : decode cX11_rolls 57 = .ok (.ifCond .ne 62, 3) := by decide +kernel
theorem dX11_rolls_60 : decode cX11_rolls 60 = .ok (.aload_n 0, 1) := by decide +kernel
theorem dX11_rolls_61 : decode cX11_rolls 61 = .ok (.getfield 190, 3) := by decide +kernel
theorem dX11_rolls_64 : decode cX11_rolls 64 = .ok (.bipush 60, 2) := by decide +kernel
theorem dX11_rolls_66 : decode cX11_rolls 66 = .ok (.if_icmp .ne 5, 3) := by decide +kernel
theorem dX11_rolls_69 : decode cX11_rolls 69 = .ok (.iconst 0, 1) := by decide +kernel
theorem dX11_rolls_70 : decode cX11_rolls 70 = .ok (.ireturn, 1) := by decide +kernel
theorem dX11_rolls_71 : decode cX11_rolls 71 = .ok (.iconst 0, 1) := by decide +kernel
theorem dX11_rolls_72 : decode cX11_rolls 72 = .ok (.istore_n 3, 1) := by decide +kernel
theorem dX11_rolls_73 : decode cX11_rolls 73 = .ok (.iload_n 3, 1) := by decide +kernel
theorem dX11_rolls_74 : decode cX11_rolls 74 = .ok (.bipush 6, 2) := by decide +kernel
theorem dX11_rolls_76 : decode cX11_rolls 76 = .ok (.if_icmp .ge 23, 3) := by decide +kernel
theorem dX11_rolls_79 : decode cX11_rolls 79 = .ok (.aload_n 0, 1) := by decide +kernel
theorem dX11_rolls_80 : decode cX11_rolls 80 = .ok (.getfield 49, 3) := by decide +kernel
theorem dX11_rolls_83 : decode cX11_rolls 83 = .ok (.aload_n 0, 1) := by decide +kernel
theorem dX11_rolls_84 : decode cX11_rolls 84 = .ok (.getfield 190, 3) := by decide +kernel
theorem dX11_rolls_87 : decode cX11_rolls 87 = .ok (.aaload, 1) := by decide +kernel
theorem dX11_rolls_88 : decode cX11_rolls 88 = .ok (.iload_n 3, 1) := by decide +kernel
theorem dX11_rolls_89 : decode cX11_rolls 89 = .ok (.aload_n 1, 1) := by decide +kernel
theorem dX11_rolls_90 : decode cX11_rolls 90 = .ok (.iload_n 3, 1) := by decide +kernel
theorem dX11_rolls_91 : decode cX11_rolls 91 = .ok (.iaload, 1) := by decide +kernel
theorem dX11_rolls_92 : decode cX11_rolls 92 = .ok (.iastore, 1) := by decide +kernel
theorem dX11_rolls_93 : decode cX11_rolls 93 = .ok (.iinc 3 1, 3) := by decide +kernel
theorem dX11_rolls_96 : decode cX11_rolls 96 = .ok (.goto (-23), 3) := by decide +kernel
theorem dX11_rolls_99 : decode cX11_rolls 99 = .ok (.aload_n 0, 1) := by decide +kernel
theorem dX11_rolls_100 : decode cX11_rolls 100 = .ok (.getfield 52, 3) := by decide +kernel
theorem dX11_rolls_103 : decode cX11_rolls 103 = .ok (.aload_n 0, 1) := by decide +kernel
theorem dX11_rolls_104 : decode cX11_rolls 104 = .ok (.getfield 190, 3) := by decide +kernel
theorem dX11_rolls_107 : decode cX11_rolls 107 = .ok (.iconst 0, 1) := by decide +kernel
theorem dX11_rolls_108 : decode cX11_rolls 108 = .ok (.iastore, 1) := by decide +kernel
theorem dX11_rolls_109 : decode cX11_rolls 109 = .ok (.aload_n 0, 1) := by decide +kernel
theorem dX11_rolls_110 : decode cX11_rolls 110 = .ok (.dup, 1) := by decide +kernel
theorem dX11_rolls_111 : decode cX11_rolls 111 = .ok (.getfield 190, 3) := by decide +kernel
theorem dX11_rolls_114 : decode cX11_rolls 114 = .ok (.iconst 1, 1) := by decide +kernel
theorem dX11_rolls_115 : decode cX11_rolls 115 = .ok (.iadd, 1) := by decide +kernel
theorem dX11_rolls_116 : decode cX11_rolls 116 = .ok (.putfield 190, 3) := by decide +kernel
theorem dX11_rolls_119 : decode cX11_rolls 119 = .ok (.aload_n 0, 1) := by decide +kernel
theorem dX11_rolls_120 : decode cX11_rolls 120 = .ok (.getfield 52, 3) := by decide +kernel
theorem dX11_rolls_123 : decode cX11_rolls 123 = .ok (.aload_n 0, 1) := by decide +kernel
theorem dX11_rolls_124 : decode cX11_rolls 124 = .ok (.getfield 190, 3) := by decide +kernel
theorem dX11_rolls_127 : decode cX11_rolls 127 = .ok (.iconst 1, 1) := by decide +kernel
theorem dX11_rolls_128 : decode cX11_rolls 128 = .ok (.isub, 1) := by decide +kernel
theorem dX11_rolls_129 : decode cX11_rolls 129 = .ok (.dup2, 1) := by decide +kernel
theorem dX11_rolls_130 : decode cX11_rolls 130 = .ok (.iaload, 1) := by decide +kernel
theorem dX11_rolls_131 : decode cX11_rolls 131 = .ok (.iconst 1, 1) := by decide +kernel
theorem dX11_rolls_132 : decode cX11_rolls 132 = .ok (.iadd, 1) := by decide +kernel
theorem dX11_rolls_133 : decode cX11_rolls 133 = .ok (.iastore, 1) := by decide +kernel
theorem dX11_rolls_134 : decode cX11_rolls 134 = .ok (.iconst 1, 1) := by decide +kernel
theorem dX11_rolls_135 : decode cX11_rolls 135 = .ok (.ireturn, 1) := by decide +kernel
set_option maxRecDepth 20000 in
theorem ggX11_becomes_X11_copy : GoodIn wsX11_becomes wsX11_copy := goodIn_r _ [10] (by decide +kernel) (by decide +kernel)
set_option maxRecDepth 20000 in
theorem gX11_becomes_X11_copy : GoodIn wsX11_becomes (va_wsS RX11 193 yX11_copy wsX11_copy) := goodIn_app (goodIn_of _ (by decide +kernel)) ggX11_becomes_X11_copy
theorem dX11_becomes_0 : decode cX11_becomes 0 = .ok (.aload_n 0, 1) := by decide +kernel
theorem dX11_becomes_1 : decode cX11_becomes 1 = .ok (.getfield 49, 3) := by decide +kernel
theorem dX11_becomes_4 : decode cX11_becomes 4 = .ok (.aload_n 0, 1) := by decide +kernel
theorem dX11_becomes_5 : decode cX11_becomes 5 = .ok (.getfield 52, 3) := by decide +kernel
theorem dX11_becomes_8 : decode cX11_becomes 8 = .ok (.aload_n 0, 1) := by decide +kernel
theorem dX11_becomes_9 : decode cX11_becomes 9 = .ok (.getfield 190, 3) := by decide +kernel
theorem dX11_becomes_12 : decode cX11_becomes 12 = .ok (.aload_n 0, 1) := by decide +kernel
theorem dX11_becomes_13 : decode cX11_becomes 13 = .ok (.getfield 43, 3) := by decide +kernel
theorem dX11_becomes_16 : decode cX11_becomes 16 = .ok (.aload_n 0, 1) := by decide +kernel
theorem dX11_becomes_17 : decode cX11_becomes 17 = .ok (.getfield 46, 3) := by decide +kernel
theorem dX11_becomes_20 : decode cX11_becomes 20 = .ok (.invokestatic 193, 3) := by decide +kernel
theorem dX11_becomes_23 : decode cX11_becomes 23 = .ok (.aload_n 0, 1) := by decide +kernel
theorem dX11_becomes_24 : decode cX11_becomes 24 = .ok (.aload_n 0, 1) := by decide +kernel
theorem dX11_becomes_25 : decode cX11_becomes 25 = .ok (.getfield 190, 3) := by decide +kernel
theorem dX11_becomes_28 : decode cX11_becomes 28 = .ok (.putfield 151, 3) := by decide +kernel
theorem dX11_becomes_31 : decode cX11_becomes 31 = .ok (.iconst 0, 1) := by decide +kernel
theorem dX11_becomes_32 : decode cX11_becomes 32 = .ok (.istore_n 1, 1) := by decide +kernel
theorem dX11_becomes_33 : decode cX11_becomes 33 = .ok (.iconst 0, 1) := by decide +kernel
theorem dX11_becomes_34 : decode cX11_becomes 34 = .ok (.istore_n 2, 1) := by decide +kernel
theorem dX11_becomes_35 : decode cX11_becomes 35 = .ok (.iload_n 2, 1) := by decide +kernel
theorem dX11_becomes_36 : decode cX11_becomes 36 = .ok (.aload_n 0, 1) := by decide +kernel
theorem dX11_becomes_37 : decode cX11_becomes 37 = .ok (.getfield 151, 3) := by decide +kernel
theorem dX11_becomes_40 : decode cX11_becomes 40 = .ok (.if_icmp .ge 18, 3) := by decide +kernel
theorem dX11_becomes_43 : decode cX11_becomes 43 = .ok (.iload_n 1, 1) := by decide +kernel
theorem dX11_becomes_44 : decode cX11_becomes 44 = .ok (.aload_n 0, 1) := by decide +kernel
theorem dX11_becomes_45 : decode cX11_becomes 45 = .ok (.getfield 46, 3) := by decide +kernel
theorem dX11_becomes_48 : decode cX11_becomes 48 = .ok (.iload_n 2, 1) := by decide +kernel
theorem dX11_becomes_49 : decode cX11_becomes 49 = .ok (.iaload, 1) := by decide +kernel
theorem dX11_becomes_50 : decode cX11_becomes 50 = .ok (.iadd, 1) := by decide +kernel
theorem dX11_becomes_51 : decode cX11_becomes 51 = .ok (.istore_n 1, 1) := by decide +kernel
theorem dX11_becomes_52 : decode cX11_becomes 52 = .ok (.iinc 2 1, 3) := by decide +kernel
theorem dX11_becomes_55 : decode cX11_becomes 55 = .ok (.goto (-20), 3) := by decide +kernel
theorem dX11_becomes_58 : decode cX11_becomes 58 = .ok (.iload_n 1, 1) := by decide +kernel
theorem dX11_becomes_59 : decode cX11_becomes 59 = .ok (.ireturn, 1) := by decide +kernel
set_option maxRecDepth 20000 in
theorem ggX11_isTooWide_X11_wanted : GoodIn wsX11_isTooWide wsX11_wanted := goodIn_r _ [9, 10, 11, 12, 13, 14, 15, 16, 17, 18, 19, 20, 21, 22, 23, 24, 25, 26, 27, 28, 29, 30, 31, 32, 33, 34, 35, 36, 37, 38, 39, 40, 41, 42, 43, 44, 45, 46, 47, 48, 49, 50, 51, 52, 53, 54, 55, 56, 57] (by decide +kernel) (by decide +kernel)
set_option maxRecDepth 20000 in
theorem gX11_isTooWide_X11_wanted : GoodIn wsX11_isTooWide (wsV RX11 161 RX11 yX11_wanted wsX11_wanted) := goodIn_app (goodIn_of _ (by decide +kernel)) ggX11_isTooWide_X11_wanted
theorem dX11_isTooWide_0 : decode cX11_isTooWide 0 = .ok (.iconst 0, 1) := by decide +kernel
theorem dX11_isTooWide_1 : decode cX11_isTooWide 1 = .ok (.istore_n 1, 1) := by decide +kernel
theorem dX11_isTooWide_2 : decode cX11_isTooWide 2 = .ok (.iconst 0, 1) := by decide +kernel
theorem dX11_isTooWide_3 : decode cX11_isTooWide 3 = .ok (.istore_n 2, 1) := by decide +kernel
theorem dX11_isTooWide_4 : decode cX11_isTooWide 4 = .ok (.iload_n 2, 1) := by decide +kernel
theorem dX11_isTooWide_5 : decode cX11_isTooWide 5 = .ok (.aload_n 0, 1) := by decide +kernel
theorem dX11_isTooWide_6 : decode cX11_isTooWide 6 = .ok (.getfield 122, 3) := by decide +kernel
theorem dX11_isTooWide_9 : decode cX11_isTooWide 9 = .ok (.if_icmp .ge 47, 3) := by decide +kernel
theorem dX11_isTooWide_12 : decode cX11_isTooWide 12 = .ok (.iload_n 1, 1) := by decide +kernel
theorem dX11_isTooWide_13 : decode cX11_isTooWide 13 = .ok (.ifCond .ne 31, 3) := by decide +kernel
theorem dX11_isTooWide_16 : decode cX11_isTooWide 16 = .ok (.aload_n 0, 1) := by decide +kernel
theorem dX11_isTooWide_17 : decode cX11_isTooWide 17 = .ok (.iload_n 2, 1) := by decide +kernel
theorem dX11_isTooWide_18 : decode cX11_isTooWide 18 = .ok (.invokevirtual 161, 3) := by decide +kernel
theorem dX11_isTooWide_21 : decode cX11_isTooWide 21 = .ok (.ifCond .le 27, 3) := by decide +kernel
theorem dX11_isTooWide_24 : decode cX11_isTooWide 24 = .ok (.aload_n 0, 1) := by decide +kernel
theorem dX11_isTooWide_25 : decode cX11_isTooWide 25 = .ok (.getfield 16, 3) := by decide +kernel
theorem dX11_isTooWide_28 : decode cX11_isTooWide 28 = .ok (.iload_n 2, 1) := by decide +kernel
theorem dX11_isTooWide_29 : decode cX11_isTooWide 29 = .ok (.iaload, 1) := by decide +kernel
theorem dX11_isTooWide_30 : decode cX11_isTooWide 30 = .ok (.aload_n 0, 1) := by decide +kernel
theorem dX11_isTooWide_31 : decode cX11_isTooWide 31 = .ok (.getfield 7, 3) := by decide +kernel
theorem dX11_isTooWide_34 : decode cX11_isTooWide 34 = .ok (.iconst 2, 1) := by decide +kernel
theorem dX11_isTooWide_35 : decode cX11_isTooWide 35 = .ok (.aload_n 0, 1) := by decide +kernel
theorem dX11_isTooWide_36 : decode cX11_isTooWide 36 = .ok (.getfield 115, 3) := by decide +kernel
theorem dX11_isTooWide_39 : decode cX11_isTooWide 39 = .ok (.imul, 1) := by decide +kernel
theorem dX11_isTooWide_40 : decode cX11_isTooWide 40 = .ok (.isub, 1) := by decide +kernel
theorem dX11_isTooWide_41 : decode cX11_isTooWide 41 = .ok (.if_icmp .le 7, 3) := by decide +kernel
theorem dX11_isTooWide_44 : decode cX11_isTooWide 44 = .ok (.iconst 1, 1) := by decide +kernel
theorem dX11_isTooWide_45 : decode cX11_isTooWide 45 = .ok (.goto 4, 3) := by decide +kernel
theorem dX11_isTooWide_48 : decode cX11_isTooWide 48 = .ok (.iconst 0, 1) := by decide +kernel
theorem dX11_isTooWide_49 : decode cX11_isTooWide 49 = .ok (.istore_n 1, 1) := by decide +kernel
theorem dX11_isTooWide_50 : decode cX11_isTooWide 50 = .ok (.iinc 2 1, 3) := by decide +kernel
theorem dX11_isTooWide_53 : decode cX11_isTooWide 53 = .ok (.goto (-49), 3) := by decide +kernel
theorem dX11_isTooWide_56 : decode cX11_isTooWide 56 = .ok (.iload_n 1, 1) := by decide +kernel
theorem dX11_isTooWide_57 : decode cX11_isTooWide 57 = .ok (.ireturn, 1) := by decide +kernel
theorem dX11_widest_0 : decode cX11_widest 0 = .ok (.iconst (-1), 1) := by decide +kernel
theorem dX11_widest_1 : decode cX11_widest 1 = .ok (.istore_n 2, 1) := by decide +kernel
theorem dX11_widest_2 : decode cX11_widest 2 = .ok (.iconst 0, 1) := by decide +kernel
theorem dX11_widest_3 : decode cX11_widest 3 = .ok (.istore_n 3, 1) := by decide +kernel
theorem dX11_widest_4 : decode cX11_widest 4 = .ok (.iload_n 3, 1) := by decide +kernel
theorem dX11_widest_5 : decode cX11_widest 5 = .ok (.aload_n 0, 1) := by decide +kernel
theorem dX11_widest_6 : decode cX11_widest 6 = .ok (.getfield 122, 3) := by decide +kernel
theorem dX11_widest_9 : decode cX11_widest 9 = .ok (.if_icmp .ge 41, 3) := by decide +kernel
theorem dX11_widest_12 : decode cX11_widest 12 = .ok (.aload_n 0, 1) := by decide +kernel
theorem dX11_widest_13 : decode cX11_widest 13 = .ok (.getfield 16, 3) := by decide +kernel
theorem dX11_widest_16 : decode cX11_widest 16 = .ok (.iload_n 3, 1) := by decide +kernel
theorem dX11_widest_17 : decode cX11_widest 17 = .ok (.iaload, 1) := by decide +kernel
theorem dX11_widest_18 : decode cX11_widest 18 = .ok (.iload_n 1, 1) := by decide +kernel
theorem dX11_widest_19 : decode cX11_widest 19 = .ok (.if_icmp .ge 25, 3) := by decide +kernel
theorem dX11_widest_22 : decode cX11_widest 22 = .ok (.iload_n 2, 1) := by decide +kernel
theorem dX11_widest_23 : decode cX11_widest 23 = .ok (.iconst (-1), 1) := by decide +kernel
theorem dX11_widest_24 : decode cX11_widest 24 = .ok (.if_icmp .eq 18, 3) := by decide +kernel
theorem dX11_widest_27 : decode cX11_widest 27 = .ok (.aload_n 0, 1) := by decide +kernel
theorem dX11_widest_28 : decode cX11_widest 28 = .ok (.getfield 16, 3) := by decide +kernel
theorem dX11_widest_31 : decode cX11_widest 31 = .ok (.iload_n 3, 1) := by decide +kernel
theorem dX11_widest_32 : decode cX11_widest 32 = .ok (.iaload, 1) := by decide +kernel
theorem dX11_widest_33 : decode cX11_widest 33 = .ok (.aload_n 0, 1) := by decide +kernel
theorem dX11_widest_34 : decode cX11_widest 34 = .ok (.getfield 16, 3) := by decide +kernel
theorem dX11_widest_37 : decode cX11_widest 37 = .ok (.iload_n 2, 1) := by decide +kernel
theorem dX11_widest_38 : decode cX11_widest 38 = .ok (.iaload, 1) := by decide +kernel
theorem dX11_widest_39 : decode cX11_widest 39 = .ok (.if_icmp .le 5, 3) := by decide +kernel
theorem dX11_widest_42 : decode cX11_widest 42 = .ok (.iload_n 3, 1) := by decide +kernel
theorem dX11_widest_43 : decode cX11_widest 43 = .ok (.istore_n 2, 1) := by decide +kernel
theorem dX11_widest_44 : decode cX11_widest 44 = .ok (.iinc 3 1, 3) := by decide +kernel
theorem dX11_widest_47 : decode cX11_widest 47 = .ok (.goto (-43), 3) := by decide +kernel
theorem dX11_widest_50 : decode cX11_widest 50 = .ok (.iload_n 2, 1) := by decide +kernel
theorem dX11_widest_51 : decode cX11_widest 51 = .ok (.ireturn, 1) := by decide +kernel
set_option maxRecDepth 20000 in
theorem ggX11_greedy_X11_isTooWide : GoodIn wsX11_greedy wsX11_isTooWide := goodIn_r _ [18, 4, 9, 6, 7, 19, 20, 21, 17, 22, 23, 24, 25, 26, 12, 27, 48, 49, 50, 51, 52, 53, 54, 55, 56, 57, 58, 59, 60, 61, 62, 63, 64, 65, 66, 67, 68, 69, 70, 71, 72, 73, 74, 75, 76, 77, 78, 79, 80, 81, 82, 83, 84, 85, 86, 87, 88, 89] (by decide +kernel) (by decide +kernel)
set_option maxRecDepth 20000 in
theorem gX11_greedy_X11_isTooWide : GoodIn wsX11_greedy (wsV RX11 197 RX11 yX11_isTooWide wsX11_isTooWide) := goodIn_app (goodIn_of _ (by decide +kernel)) ggX11_greedy_X11_isTooWide
set_option maxRecDepth 20000 in
theorem ggX11_greedy_X11_wanted : GoodIn wsX11_greedy wsX11_wanted := goodIn_r _ [22, 23, 24, 25, 26, 12, 27, 48, 49, 50, 51, 52, 53, 54, 55, 56, 57, 58, 59, 60, 61, 62, 63, 64, 65, 66, 67, 68, 69, 70, 71, 72, 73, 74, 75, 76, 77, 78, 79, 80, 81, 82, 83, 84, 85, 86, 87, 88, 89] (by decide +kernel) (by decide +kernel)
set_option maxRecDepth 20000 in
theorem gX11_greedy_X11_wanted : GoodIn wsX11_greedy (wsV RX11 161 RX11 yX11_wanted wsX11_wanted) := goodIn_app (goodIn_of _ (by decide +kernel)) ggX11_greedy_X11_wanted
set_option maxRecDepth 20000 in
theorem ggX11_greedy_X11_widest : GoodIn wsX11_greedy wsX11_widest := goodIn_r _ [31, 4, 9, 48, 49, 50, 51, 52, 53, 54, 55, 56, 57, 58, 59, 60, 61, 62, 63, 64, 65, 66, 67, 68, 69, 70, 71, 72, 73, 74, 75, 76, 77, 78, 79, 80, 81, 82, 83, 84, 85, 86, 87, 88, 89] (by decide +kernel) (by decide +kernel)
set_option maxRecDepth 20000 in
theorem gX11_greedy_X11_widest : GoodIn wsX11_greedy (wsV RX11 200 RX11 yX11_widest wsX11_widest) := goodIn_app (goodIn_of _ (by decide +kernel)) ggX11_greedy_X11_widest
set_option maxRecDepth 20000 in
theorem ggX11_greedy_X11_rolls : GoodIn wsX11_greedy wsX11_rolls := goodIn_r _ [35, 2, 36, 37, 48, 49, 50, 51, 52, 53, 54, 55, 56, 57, 58, 59, 60, 61, 62, 63, 64, 65, 66, 67, 68, 69, 70, 71, 72, 73, 74, 75, 76, 77, 78, 79, 80, 81, 82, 83, 84, 85, 86, 87, 88, 89] (by decide +kernel) (by decide +kernel)
set_option maxRecDepth 20000 in
theorem gX11_greedy_X11_rolls : GoodIn wsX11_greedy (wsV RX11 203 RX11 yX11_rolls wsX11_rolls) := goodIn_app (goodIn_of _ (by decide +kernel)) ggX11_greedy_X11_rolls
set_option maxRecDepth 20000 in
theorem ggX11_greedy_X11_becomes : GoodIn wsX11_greedy wsX11_becomes := goodIn_r _ [41, 36, 37, 2, 42, 43, 44, 45, 46, 17, 47, 48, 49, 50, 51, 52, 53, 54, 55, 56, 57, 58, 59, 60, 61, 62, 63, 64, 65, 66, 67, 68, 69, 70, 71, 72, 73, 74, 75, 76, 77, 78, 79, 80, 81, 82, 83, 84, 85, 86, 87, 88, 89] (by decide +kernel) (by decide +kernel)
set_option maxRecDepth 20000 in
theorem gX11_greedy_X11_becomes : GoodIn wsX11_greedy (wsV RX11 206 RX11 yX11_becomes wsX11_becomes) := goodIn_app (goodIn_of _ (by decide +kernel)) ggX11_greedy_X11_becomes
theorem dX11_greedy_0 : decode cX11_greedy 0 = .ok (.aload_n 0, 1) := by decide +kernel
theorem dX11_greedy_1 : decode cX11_greedy 1 = .ok (.iconst 0, 1) := by decide +kernel
theorem dX11_greedy_2 : decode cX11_greedy 2 = .ok (.putfield 99, 3) := by decide +kernel
theorem dX11_greedy_5 : decode cX11_greedy 5 = .ok (.aload_n 0, 1) := by decide +kernel
theorem dX11_greedy_6 : decode cX11_greedy 6 = .ok (.invokevirtual 197, 3) := by decide +kernel
theorem dX11_greedy_9 : decode cX11_greedy 9 = .ok (.ifCond .eq 6, 3) := by decide +kernel
theorem dX11_greedy_12 : decode cX11_greedy 12 = .ok (.bipush (-2), 2) := by decide +kernel
theorem dX11_greedy_14 : decode cX11_greedy 14 = .ok (.ireturn, 1) := by decide +kernel
theorem dX11_greedy_15 : decode cX11_greedy 15 = .ok (.aload_n 0, 1) := by decide +kernel
theorem dX11_greedy_16 : decode cX11_greedy 16 = .ok (.iconst 0, 1) := by decide +kernel
theorem dX11_greedy_17 : decode cX11_greedy 17 = .ok (.putfield 190, 3) := by decide +kernel
theorem dX11_greedy_20 : decode cX11_greedy 20 = .ok (.iconst 0, 1) := by decide +kernel
theorem dX11_greedy_21 : decode cX11_greedy 21 = .ok (.istore_n 1, 1) := by decide +kernel
theorem dX11_greedy_22 : decode cX11_greedy 22 = .ok (.iconst 0, 1) := by decide +kernel
theorem dX11_greedy_23 : decode cX11_greedy 23 = .ok (.istore_n 2, 1) := by decide +kernel
theorem dX11_greedy_24 : decode cX11_greedy 24 = .ok (.iload_n 2, 1) := by decide +kernel
theorem dX11_greedy_25 : decode cX11_greedy 25 = .ok (.bipush 6, 2) := by decide +kernel
theorem dX11_greedy_27 : decode cX11_greedy 27 = .ok (.if_icmp .ge 41, 3) := by decide +kernel
theorem dX11_greedy_30 : decode cX11_greedy 30 = .ok (.aload_n 0, 1) := by decide +kernel
theorem dX11_greedy_31 : decode cX11_greedy 31 = .ok (.getfield 61, 3) := by decide +kernel
theorem dX11_greedy_34 : decode cX11_greedy 34 = .ok (.iload_n 2, 1) := by decide +kernel
theorem dX11_greedy_35 : decode cX11_greedy 35 = .ok (.iload_n 2, 1) := by decide +kernel
theorem dX11_greedy_36 : decode cX11_greedy 36 = .ok (.aload_n 0, 1) := by decide +kernel
theorem dX11_greedy_37 : decode cX11_greedy 37 = .ok (.getfield 122, 3) := by decide +kernel
theorem dX11_greedy_40 : decode cX11_greedy 40 = .ok (.if_icmp .ge 11, 3) := by decide +kernel
theorem dX11_greedy_43 : decode cX11_greedy 43 = .ok (.aload_n 0, 1) := by decide +kernel
theorem dX11_greedy_44 : decode cX11_greedy 44 = .ok (.iload_n 2, 1) := by decide +kernel
theorem dX11_greedy_45 : decode cX11_greedy 45 = .ok (.invokevirtual 161, 3) := by decide +kernel
theorem dX11_greedy_48 : decode cX11_greedy 48 = .ok (.goto 4, 3) := by decide +kernel
theorem dX11_greedy_51 : decode cX11_greedy 51 = .ok (.iconst 0, 1) := by decide +kernel
theorem dX11_greedy_52 : decode cX11_greedy 52 = .ok (.iastore, 1) := by decide +kernel
theorem dX11_greedy_53 : decode cX11_greedy 53 = .ok (.iload_n 1, 1) := by decide +kernel
theorem dX11_greedy_54 : decode cX11_greedy 54 = .ok (.aload_n 0, 1) := by decide +kernel
theorem dX11_greedy_55 : decode cX11_greedy 55 = .ok (.getfield 61, 3) := by decide +kernel
theorem dX11_greedy_58 : decode cX11_greedy 58 = .ok (.iload_n 2, 1) := by decide +kernel
theorem dX11_greedy_59 : decode cX11_greedy 59 = .ok (.iaload, 1) := by decide +kernel
theorem dX11_greedy_60 : decode cX11_greedy 60 = .ok (.iadd, 1) := by decide +kernel
theorem dX11_greedy_61 : decode cX11_greedy 61 = .ok (.istore_n 1, 1) := by decide +kernel
theorem dX11_greedy_62 : decode cX11_greedy 62 = .ok (.iinc 2 1, 3) := by decide +kernel
theorem dX11_greedy_65 : decode cX11_greedy 65 = .ok (.goto (-41), 3) := by decide +kernel
theorem dX11_greedy_68 : decode cX11_greedy 68 = .ok (.iload_n 1, 1) := by decide +kernel
theorem dX11_greedy_69 : decode cX11_greedy 69 = .ok (.ifCond .le 174, 3) := by decide +kernel
theorem dX11_greedy_72 : decode cX11_greedy 72 = .ok (.iconst 0, 1) := by decide +kernel
theorem dX11_greedy_73 : decode cX11_greedy 73 = .ok (.istore_n 2, 1) := by decide +kernel
theorem dX11_greedy_74 : decode cX11_greedy 74 = .ok (.iload_n 2, 1) := by decide +kernel
theorem dX11_greedy_75 : decode cX11_greedy 75 = .ok (.bipush 6, 2) := by decide +kernel
theorem dX11_greedy_77 : decode cX11_greedy 77 = .ok (.if_icmp .ge 16, 3) := by decide +kernel
theorem dX11_greedy_80 : decode cX11_greedy 80 = .ok (.aload_n 0, 1) := by decide +kernel
theorem dX11_greedy_81 : decode cX11_greedy 81 = .ok (.getfield 64, 3) := by decide +kernel
theorem dX11_greedy_84 : decode cX11_greedy 84 = .ok (.iload_n 2, 1) := by decide +kernel
theorem dX11_greedy_85 : decode cX11_greedy 85 = .ok (.iconst 0, 1) := by decide +kernel
theorem dX11_greedy_86 : decode cX11_greedy 86 = .ok (.iastore, 1) := by decide +kernel
theorem dX11_greedy_87 : decode cX11_greedy 87 = .ok (.iinc 2 1, 3) := by decide +kernel
theorem dX11_greedy_90 : decode cX11_greedy 90 = .ok (.goto (-16), 3) := by decide +kernel
theorem dX11_greedy_93 : decode cX11_greedy 93 = .ok (.aload_n 0, 1) := by decide +kernel
theorem dX11_greedy_94 : decode cX11_greedy 94 = .ok (.getfield 7, 3) := by decide +kernel
theorem dX11_greedy_97 : decode cX11_greedy 97 = .ok (.iconst 2, 1) := by decide +kernel
theorem dX11_greedy_98 : decode cX11_greedy 98 = .ok (.aload_n 0, 1) := by decide +kernel
theorem dX11_greedy_99 : decode cX11_greedy 99 = .ok (.getfield 115, 3) := by decide +kernel
theorem dX11_greedy_102 : decode cX11_greedy 102 = .ok (.imul, 1) := by decide +kernel
theorem dX11_greedy_103 : decode cX11_greedy 103 = .ok (.isub, 1) := by decide +kernel
theorem dX11_greedy_104 : decode cX11_greedy 104 = .ok (.istore_n 2, 1) := by decide +kernel
theorem dX11_greedy_105 : decode cX11_greedy 105 = .ok (.aload_n 0, 1) := by decide +kernel
theorem dX11_greedy_106 : decode cX11_greedy 106 = .ok (.getfield 13, 3) := by decide +kernel
theorem dX11_greedy_109 : decode cX11_greedy 109 = .ok (.istore_n 3, 1) := by decide +kernel
theorem dX11_greedy_110 : decode cX11_greedy 110 = .ok (.aload_n 0, 1) := by decide +kernel
theorem dX11_greedy_111 : decode cX11_greedy 111 = .ok (.sipush 10001, 3) := by decide +kernel
theorem dX11_greedy_114 : decode cX11_greedy 114 = .ok (.invokevirtual 200, 3) := by decide +kernel
theorem dX11_greedy_117 : decode cX11_greedy 117 = .ok (.istore 4, 2) := by decide +kernel
theorem dX11_greedy_119 : decode cX11_greedy 119 = .ok (.iload 4, 2) := by decide +kernel
theorem dX11_greedy_121 : decode cX11_greedy 121 = .ok (.iconst (-1), 1) := by decide +kernel
theorem dX11_greedy_122 : decode cX11_greedy 122 = .ok (.if_icmp .eq 104, 3) := by decide +kernel
theorem dX11_greedy_125 : decode cX11_greedy 125 = .ok (.aload_n 0, 1) := by decide +kernel
theorem dX11_greedy_126 : decode cX11_greedy 126 = .ok (.getfield 64, 3) := by decide +kernel
theorem dX11_greedy_129 : decode cX11_greedy 129 = .ok (.iload 4, 2) := by decide +kernel
theorem dX11_greedy_131 : decode cX11_greedy 131 = .ok (.aload_n 0, 1) := by decide +kernel
theorem dX11_greedy_132 : decode cX11_greedy 132 = .ok (.getfield 61, 3) := by decide +kernel
theorem dX11_greedy_135 : decode cX11_greedy 135 = .ok (.iload 4, 2) := by decide +kernel
theorem dX11_greedy_137 : decode cX11_greedy 137 = .ok (.iaload, 1) := by decide +kernel
theorem dX11_greedy_138 : decode cX11_greedy 138 = .ok (.iload_n 3, 1) := by decide +kernel
theorem dX11_greedy_139 : decode cX11_greedy 139 = .ok (.iload_n 2, 1) := by decide +kernel
theorem dX11_greedy_140 : decode cX11_greedy 140 = .ok (.aload_n 0, 1) := by decide +kernel
theorem dX11_greedy_141 : decode cX11_greedy 141 = .ok (.getfield 16, 3) := by decide +kernel
theorem dX11_greedy_144 : decode cX11_greedy 144 = .ok (.iload 4, 2) := by decide +kernel
theorem dX11_greedy_146 : decode cX11_greedy 146 = .ok (.iaload, 1) := by decide +kernel
theorem dX11_greedy_147 : decode cX11_greedy 147 = .ok (.idiv, 1) := by decide +kernel
theorem dX11_greedy_148 : decode cX11_greedy 148 = .ok (.invokestatic 125, 3) := by decide +kernel
theorem dX11_greedy_151 : decode cX11_greedy 151 = .ok (.invokestatic 125, 3) := by decide +kernel
theorem dX11_greedy_154 : decode cX11_greedy 154 = .ok (.iastore, 1) := by decide +kernel
theorem dX11_greedy_155 : decode cX11_greedy 155 = .ok (.aload_n 0, 1) := by decide +kernel
theorem dX11_greedy_156 : decode cX11_greedy 156 = .ok (.getfield 61, 3) := by decide +kernel
theorem dX11_greedy_159 : decode cX11_greedy 159 = .ok (.iload 4, 2) := by decide +kernel
theorem dX11_greedy_161 : decode cX11_greedy 161 = .ok (.dup2, 1) := by decide +kernel
theorem dX11_greedy_162 : decode cX11_greedy 162 = .ok (.iaload, 1) := by decide +kernel
theorem dX11_greedy_163 : decode cX11_greedy 163 = .ok (.aload_n 0, 1) := by decide +kernel
theorem dX11_greedy_164 : decode cX11_greedy 164 = .ok (.getfield 64, 3) := by decide +kernel
theorem dX11_greedy_167 : decode cX11_greedy 167 = .ok (.iload 4, 2) := by decide +kernel
theorem dX11_greedy_169 : decode cX11_greedy 169 = .ok (.iaload, 1) := by decide +kernel
theorem dX11_greedy_170 : decode cX11_greedy 170 = .ok (.isub, 1) := by decide +kernel
theorem dX11_greedy_171 : decode cX11_greedy 171 = .ok (.iastore, 1) := by decide +kernel
theorem dX11_greedy_172 : decode cX11_greedy 172 = .ok (.iload_n 1, 1) := by decide +kernel
theorem dX11_greedy_173 : decode cX11_greedy 173 = .ok (.aload_n 0, 1) := by decide +kernel
theorem dX11_greedy_174 : decode cX11_greedy 174 = .ok (.getfield 64, 3) := by decide +kernel
theorem dX11_greedy_177 : decode cX11_greedy 177 = .ok (.iload 4, 2) := by decide +kernel
theorem dX11_greedy_179 : decode cX11_greedy 179 = .ok (.iaload, 1) := by decide +kernel
theorem dX11_greedy_180 : decode cX11_greedy 180 = .ok (.isub, 1) := by decide +kernel
theorem dX11_greedy_181 : decode cX11_greedy 181 = .ok (.istore_n 1, 1) := by decide +kernel
theorem dX11_greedy_182 : decode cX11_greedy 182 = .ok (.iload_n 3, 1) := by decide +kernel
theorem dX11_greedy_183 : decode cX11_greedy 183 = .ok (.aload_n 0, 1) := by decide +kernel
theorem dX11_greedy_184 : decode cX11_greedy 184 = .ok (.getfield 64, 3) := by decide +kernel
theorem dX11_greedy_187 : decode cX11_greedy 187 = .ok (.iload 4, 2) := by decide +kernel
theorem dX11_greedy_189 : decode cX11_greedy 189 = .ok (.iaload, 1) := by decide +kernel
theorem dX11_greedy_190 : decode cX11_greedy 190 = .ok (.isub, 1) := by decide +kernel
theorem dX11_greedy_191 : decode cX11_greedy 191 = .ok (.istore_n 3, 1) := by decide +kernel
theorem dX11_greedy_192 : decode cX11_greedy 192 = .ok (.iload_n 2, 1) := by decide +kernel
theorem dX11_greedy_193 : decode cX11_greedy 193 = .ok (.aload_n 0, 1) := by decide +kernel
theorem dX11_greedy_194 : decode cX11_greedy 194 = .ok (.getfield 64, 3) := by decide +kernel
theorem dX11_greedy_197 : decode cX11_greedy 197 = .ok (.iload 4, 2) := by decide +kernel
theorem dX11_greedy_199 : decode cX11_greedy 199 = .ok (.iaload, 1) := by decide +kernel
theorem dX11_greedy_200 : decode cX11_greedy 200 = .ok (.aload_n 0, 1) := by decide +kernel
theorem dX11_greedy_201 : decode cX11_greedy 201 = .ok (.getfield 16, 3) := by decide +kernel
theorem dX11_greedy_204 : decode cX11_greedy 204 = .ok (.iload 4, 2) := by decide +kernel
theorem dX11_greedy_206 : decode cX11_greedy 206 = .ok (.iaload, 1) := by decide +kernel
theorem dX11_greedy_207 : decode cX11_greedy 207 = .ok (.imul, 1) := by decide +kernel
theorem dX11_greedy_208 : decode cX11_greedy 208 = .ok (.isub, 1) := by decide +kernel
theorem dX11_greedy_209 : decode cX11_greedy 209 = .ok (.istore_n 2, 1) := by decide +kernel
theorem dX11_greedy_210 : decode cX11_greedy 210 = .ok (.aload_n 0, 1) := by decide +kernel
theorem dX11_greedy_211 : decode cX11_greedy 211 = .ok (.aload_n 0, 1) := by decide +kernel
theorem dX11_greedy_212 : decode cX11_greedy 212 = .ok (.getfield 16, 3) := by decide +kernel
theorem dX11_greedy_215 : decode cX11_greedy 215 = .ok (.iload 4, 2) := by decide +kernel
theorem dX11_greedy_217 : decode cX11_greedy 217 = .ok (.iaload, 1) := by decide +kernel
theorem dX11_greedy_218 : decode cX11_greedy 218 = .ok (.invokevirtual 200, 3) := by decide +kernel
theorem dX11_greedy_221 : decode cX11_greedy 221 = .ok (.istore 4, 2) := by decide +kernel
theorem dX11_greedy_223 : decode cX11_greedy 223 = .ok (.goto (-104), 3) := by decide +kernel
theorem dX11_greedy_226 : decode cX11_greedy 226 = .ok (.aload_n 0, 1) := by decide +kernel
theorem dX11_greedy_227 : decode cX11_greedy 227 = .ok (.aload_n 0, 1) := by decide +kernel
theorem dX11_greedy_228 : decode cX11_greedy 228 = .ok (.getfield 64, 3) := by decide +kernel
theorem dX11_greedy_231 : decode cX11_greedy 231 = .ok (.invokevirtual 203, 3) := by decide +kernel
theorem dX11_greedy_234 : decode cX11_greedy 234 = .ok (.ifCond .ne 6, 3) := by decide +kernel
theorem dX11_greedy_237 : decode cX11_greedy 237 = .ok (.bipush (-3), 2) := by decide +kernel
theorem dX11_greedy_239 : decode cX11_greedy 239 = .ok (.ireturn, 1) := by decide +kernel
theorem dX11_greedy_240 : decode cX11_greedy 240 = .ok (.goto (-172), 3) := by decide +kernel
theorem dX11_greedy_243 : decode cX11_greedy 243 = .ok (.aload_n 0, 1) := by decide +kernel
theorem dX11_greedy_244 : decode cX11_greedy 244 = .ok (.invokevirtual 206, 3) := by decide +kernel
theorem dX11_greedy_247 : decode cX11_greedy 247 = .ok (.ireturn, 1) := by decide +kernel
set_option maxRecDepth 20000 in
theorem ggX11_behind_X11_wanted : GoodIn wsX11_behind wsX11_wanted := goodIn_r _ [11, 12, 13, 3, 4, 5, 6, 14, 15, 16, 17, 18, 19, 20, 21, 22, 23, 24, 25, 26, 27, 28, 29, 30, 31, 32, 33, 34, 35, 36, 37, 38, 39, 40, 41, 42, 43, 44, 45, 46, 47, 48, 49, 50, 51, 52, 53, 54, 55] (by decide +kernel) (by decide +kernel)
set_option maxRecDepth 20000 in
theorem gX11_behind_X11_wanted : GoodIn wsX11_behind (wsV RX11 161 RX11 yX11_wanted wsX11_wanted) := goodIn_app (goodIn_of _ (by decide +kernel)) ggX11_behind_X11_wanted
theorem dX11_behind_0 : decode cX11_behind 0 = .ok (.iconst 0, 1) := by decide +kernel
theorem dX11_behind_1 : decode cX11_behind 1 = .ok (.istore_n 3, 1) := by decide +kernel
theorem dX11_behind_2 : decode cX11_behind 2 = .ok (.iconst 0, 1) := by decide +kernel
theorem dX11_behind_3 : decode cX11_behind 3 = .ok (.istore 4, 2) := by decide +kernel
theorem dX11_behind_5 : decode cX11_behind 5 = .ok (.iload 4, 2) := by decide +kernel
theorem dX11_behind_7 : decode cX11_behind 7 = .ok (.aload_n 0, 1) := by decide +kernel
theorem dX11_behind_8 : decode cX11_behind 8 = .ok (.getfield 122, 3) := by decide +kernel
theorem dX11_behind_11 : decode cX11_behind 11 = .ok (.if_icmp .ge 47, 3) := by decide +kernel
theorem dX11_behind_14 : decode cX11_behind 14 = .ok (.iload_n 3, 1) := by decide +kernel
theorem dX11_behind_15 : decode cX11_behind 15 = .ok (.aload_n 0, 1) := by decide +kernel
theorem dX11_behind_16 : decode cX11_behind 16 = .ok (.getfield 70, 3) := by decide +kernel
theorem dX11_behind_19 : decode cX11_behind 19 = .ok (.iload 4, 2) := by decide +kernel
theorem dX11_behind_21 : decode cX11_behind 21 = .ok (.iaload, 1) := by decide +kernel
theorem dX11_behind_22 : decode cX11_behind 22 = .ok (.iconst 0, 1) := by decide +kernel
theorem dX11_behind_23 : decode cX11_behind 23 = .ok (.iload_n 1, 1) := by decide +kernel
theorem dX11_behind_24 : decode cX11_behind 24 = .ok (.aload_n 0, 1) := by decide +kernel
theorem dX11_behind_25 : decode cX11_behind 25 = .ok (.getfield 70, 3) := by decide +kernel
theorem dX11_behind_28 : decode cX11_behind 28 = .ok (.iload 4, 2) := by decide +kernel
theorem dX11_behind_30 : decode cX11_behind 30 = .ok (.iaload, 1) := by decide +kernel
theorem dX11_behind_31 : decode cX11_behind 31 = .ok (.idiv, 1) := by decide +kernel
theorem dX11_behind_32 : decode cX11_behind 32 = .ok (.aload_n 0, 1) := by decide +kernel
theorem dX11_behind_33 : decode cX11_behind 33 = .ok (.iload 4, 2) := by decide +kernel
theorem dX11_behind_35 : decode cX11_behind 35 = .ok (.invokevirtual 161, 3) := by decide +kernel
theorem dX11_behind_38 : decode cX11_behind 38 = .ok (.iconst 1, 1) := by decide +kernel
theorem dX11_behind_39 : decode cX11_behind 39 = .ok (.iadd, 1) := by decide +kernel
theorem dX11_behind_40 : decode cX11_behind 40 = .ok (.irem, 1) := by decide +kernel
theorem dX11_behind_41 : decode cX11_behind 41 = .ok (.aload_n 2, 1) := by decide +kernel
theorem dX11_behind_42 : decode cX11_behind 42 = .ok (.iload 4, 2) := by decide +kernel
theorem dX11_behind_44 : decode cX11_behind 44 = .ok (.iaload, 1) := by decide +kernel
theorem dX11_behind_45 : decode cX11_behind 45 = .ok (.isub, 1) := by decide +kernel
theorem dX11_behind_46 : decode cX11_behind 46 = .ok (.invokestatic 102, 3) := by decide +kernel
theorem dX11_behind_49 : decode cX11_behind 49 = .ok (.imul, 1) := by decide +kernel
theorem dX11_behind_50 : decode cX11_behind 50 = .ok (.iadd, 1) := by decide +kernel
theorem dX11_behind_51 : decode cX11_behind 51 = .ok (.istore_n 3, 1) := by decide +kernel
theorem dX11_behind_52 : decode cX11_behind 52 = .ok (.iinc 4 1, 3) := by decide +kernel
theorem dX11_behind_55 : decode cX11_behind 55 = .ok (.goto (-50), 3) := by decide +kernel
theorem dX11_behind_58 : decode cX11_behind 58 = .ok (.iload_n 3, 1) := by decide +kernel
theorem dX11_behind_59 : decode cX11_behind 59 = .ok (.ireturn, 1) := by decide +kernel
set_option maxRecDepth 20000 in
theorem ggX11_fewest_X11_isNumbered : GoodIn wsX11_fewest wsX11_isNumbered := goodIn_r _ [23, 11, 24, 25, 26, 22, 27, 28, 29, 30, 31, 32, 33, 34, 35, 2, 14, 36, 37, 15, 16, 7, 17, 71, 72, 73, 74, 75, 76, 77, 78, 79, 80, 81, 82, 83, 84, 85, 86, 87, 88, 89, 90, 91, 92, 93, 94, 95, 96, 97, 98, 99, 100, 101, 102, 103, 104, 105, 106, 107, 108, 109, 110, 111, 112] (by decide +kernel) (by decide +kernel)
set_option maxRecDepth 20000 in
theorem gX11_fewest_X11_isNumbered : GoodIn wsX11_fewest (wsV RX11 130 RX11 yX11_isNumbered wsX11_isNumbered) := goodIn_app (goodIn_of _ (by decide +kernel)) ggX11_fewest_X11_isNumbered
set_option maxRecDepth 20000 in
theorem ggX11_fewest_X11_wanted : GoodIn wsX11_fewest wsX11_wanted := goodIn_r _ [41, 42, 43, 44, 45, 7, 46, 71, 72, 73, 74, 75, 76, 77, 78, 79, 80, 81, 82, 83, 84, 85, 86, 87, 88, 89, 90, 91, 92, 93, 94, 95, 96, 97, 98, 99, 100, 101, 102, 103, 104, 105, 106, 107, 108, 109, 110, 111, 112] (by decide +kernel) (by decide +kernel)
set_option maxRecDepth 20000 in
theorem gX11_fewest_X11_wanted : GoodIn wsX11_fewest (wsV RX11 161 RX11 yX11_wanted wsX11_wanted) := goodIn_app (goodIn_of _ (by decide +kernel)) ggX11_fewest_X11_wanted
set_option maxRecDepth 20000 in
theorem ggX11_fewest_X11_isTooWide : GoodIn wsX11_fewest wsX11_isTooWide := goodIn_r _ [50, 2, 37, 29, 30, 38, 39, 40, 22, 41, 42, 43, 44, 45, 7, 46, 71, 72, 73, 74, 75, 76, 77, 78, 79, 80, 81, 82, 83, 84, 85, 86, 87, 88, 89, 90, 91, 92, 93, 94, 95, 96, 97, 98, 99, 100, 101, 102, 103, 104, 105, 106, 107, 108, 109, 110, 111, 112] (by decide +kernel) (by decide +kernel)
set_option maxRecDepth 20000 in
theorem gX11_fewest_X11_isTooWide : GoodIn wsX11_fewest (wsV RX11 197 RX11 yX11_isTooWide wsX11_isTooWide) := goodIn_app (goodIn_of _ (by decide +kernel)) ggX11_fewest_X11_isTooWide
set_option maxRecDepth 20000 in
theorem ggX11_fewest_X11_behind : GoodIn wsX11_fewest wsX11_behind := goodIn_r _ [54, 2, 3, 44, 45, 7, 46, 38, 39, 40, 22, 41, 42, 43, 71, 72, 73, 74, 75, 76, 77, 78, 79, 80, 81, 82, 83, 84, 85, 86, 87, 88, 89, 90, 91, 92, 93, 94, 95, 96, 97, 98, 99, 100, 101, 102, 103, 104, 105, 106, 107, 108, 109, 110, 111, 112] (by decide +kernel) (by decide +kernel)
set_option maxRecDepth 20000 in
theorem gX11_fewest_X11_behind : GoodIn wsX11_fewest (wsV RX11 220 RX11 yX11_behind wsX11_behind) := goodIn_app (goodIn_of _ (by decide +kernel)) ggX11_fewest_X11_behind
set_option maxRecDepth 20000 in
theorem ggX11_fewest_X11_rolls : GoodIn wsX11_fewest wsX11_rolls := goodIn_r _ [58, 18, 59, 60, 71, 72, 73, 74, 75, 76, 77, 78, 79, 80, 81, 82, 83, 84, 85, 86, 87, 88, 89, 90, 91, 92, 93, 94, 95, 96, 97, 98, 99, 100, 101, 102, 103, 104, 105, 106, 107, 108, 109, 110, 111, 112] (by decide +kernel) (by decide +kernel)
set_option maxRecDepth 20000 in
theorem gX11_fewest_X11_rolls : GoodIn wsX11_fewest (wsV RX11 203 RX11 yX11_rolls wsX11_rolls) := goodIn_app (goodIn_of _ (by decide +kernel)) ggX11_fewest_X11_rolls
set_option maxRecDepth 20000 in
theorem ggX11_fewest_X11_becomes : GoodIn wsX11_fewest wsX11_becomes := goodIn_r _ [64, 59, 60, 18, 65, 66, 67, 68, 69, 22, 70, 71, 72, 73, 74, 75, 76, 77, 78, 79, 80, 81, 82, 83, 84, 85, 86, 87, 88, 89, 90, 91, 92, 93, 94, 95, 96, 97, 98, 99, 100, 101, 102, 103, 104, 105, 106, 107, 108, 109, 110, 111, 112] (by decide +kernel) (by decide +kernel)
set_option maxRecDepth 20000 in
theorem gX11_fewest_X11_becomes : GoodIn wsX11_fewest (wsV RX11 206 RX11 yX11_becomes wsX11_becomes) := goodIn_app (goodIn_of _ (by decide +kernel)) ggX11_fewest_X11_becomes
theorem dX11_fewest_0 : decode cX11_fewest 0 = .ok (.aload_n 0, 1) := by decide +kernel
theorem dX11_fewest_1 : decode cX11_fewest 1 = .ok (.iconst 0, 1) := by decide +kernel
theorem dX11_fewest_2 : decode cX11_fewest 2 = .ok (.putfield 99, 3) := by decide +kernel
theorem dX11_fewest_5 : decode cX11_fewest 5 = .ok (.aload_n 0, 1) := by decide +kernel
theorem dX11_fewest_6 : decode cX11_fewest 6 = .ok (.invokevirtual 130, 3) := by decide +kernel
theorem dX11_fewest_9 : decode cX11_fewest 9 = .ok (.ifCond .ne 6, 3) := by decide +kernel
theorem dX11_fewest_12 : decode cX11_fewest 12 = .ok (.bipush (-4), 2) := by decide +kernel
theorem dX11_fewest_14 : decode cX11_fewest 14 = .ok (.ireturn, 1) := by decide +kernel
theorem dX11_fewest_15 : decode cX11_fewest 15 = .ok (.lconst 1, 1) := by decide +kernel
theorem dX11_fewest_16 : decode cX11_fewest 16 = .ok (.lstore_n 1, 1) := by decide +kernel
theorem dX11_fewest_17 : decode cX11_fewest 17 = .ok (.iconst 0, 1) := by decide +kernel
theorem dX11_fewest_18 : decode cX11_fewest 18 = .ok (.istore_n 3, 1) := by decide +kernel
theorem dX11_fewest_19 : decode cX11_fewest 19 = .ok (.iload_n 3, 1) := by decide +kernel
theorem dX11_fewest_20 : decode cX11_fewest 20 = .ok (.aload_n 0, 1) := by decide +kernel
theorem dX11_fewest_21 : decode cX11_fewest 21 = .ok (.getfield 122, 3) := by decide +kernel
theorem dX11_fewest_24 : decode cX11_fewest 24 = .ok (.if_icmp .ge 40, 3) := by decide +kernel
theorem dX11_fewest_27 : decode cX11_fewest 27 = .ok (.aload_n 0, 1) := by decide +kernel
theorem dX11_fewest_28 : decode cX11_fewest 28 = .ok (.getfield 70, 3) := by decide +kernel
theorem dX11_fewest_31 : decode cX11_fewest 31 = .ok (.iload_n 3, 1) := by decide +kernel
theorem dX11_fewest_32 : decode cX11_fewest 32 = .ok (.lload_n 1, 1) := by decide +kernel
theorem dX11_fewest_33 : decode cX11_fewest 33 = .ok (.ldc2_w 209, 3) := by decide +kernel
theorem dX11_fewest_36 : decode cX11_fewest 36 = .ok (.invokestatic 211, 3) := by decide +kernel
theorem dX11_fewest_39 : decode cX11_fewest 39 = .ok (.l2i, 1) := by decide +kernel
theorem dX11_fewest_40 : decode cX11_fewest 40 = .ok (.iastore, 1) := by decide +kernel
theorem dX11_fewest_41 : decode cX11_fewest 41 = .ok (.ldc2_w 214, 3) := by decide +kernel
theorem dX11_fewest_44 : decode cX11_fewest 44 = .ok (.lload_n 1, 1) := by decide +kernel
theorem dX11_fewest_45 : decode cX11_fewest 45 = .ok (.aload_n 0, 1) := by decide +kernel
theorem dX11_fewest_46 : decode cX11_fewest 46 = .ok (.iload_n 3, 1) := by decide +kernel
theorem dX11_fewest_47 : decode cX11_fewest 47 = .ok (.invokevirtual 161, 3) := by decide +kernel
theorem dX11_fewest_50 : decode cX11_fewest 50 = .ok (.iconst 1, 1) := by decide +kernel
theorem dX11_fewest_51 : decode cX11_fewest 51 = .ok (.iadd, 1) := by decide +kernel
theorem dX11_fewest_52 : decode cX11_fewest 52 = .ok (.i2l, 1) := by decide +kernel
theorem dX11_fewest_53 : decode cX11_fewest 53 = .ok (.lmul, 1) := by decide +kernel
theorem dX11_fewest_54 : decode cX11_fewest 54 = .ok (.invokestatic 211, 3) := by decide +kernel
theorem dX11_fewest_57 : decode cX11_fewest 57 = .ok (.lstore_n 1, 1) := by decide +kernel
theorem dX11_fewest_58 : decode cX11_fewest 58 = .ok (.iinc 3 1, 3) := by decide +kernel
theorem dX11_fewest_61 : decode cX11_fewest 61 = .ok (.goto (-42), 3) := by decide +kernel
theorem dX11_fewest_64 : decode cX11_fewest 64 = .ok (.lload_n 1, 1) := by decide +kernel
theorem dX11_fewest_65 : decode cX11_fewest 65 = .ok (.ldc2_w 216, 3) := by decide +kernel
theorem dX11_fewest_68 : decode cX11_fewest 68 = .ok (.lcmp, 1) := by decide +kernel
theorem dX11_fewest_69 : decode cX11_fewest 69 = .ok (.ifCond .gt 17, 3) := by decide +kernel
theorem dX11_fewest_72 : decode cX11_fewest 72 = .ok (.lload_n 1, 1) := by decide +kernel
theorem dX11_fewest_73 : decode cX11_fewest 73 = .ok (.aload_n 0, 1) := by decide +kernel
theorem dX11_fewest_74 : decode cX11_fewest 74 = .ok (.getfield 112, 3) := by decide +kernel
theorem dX11_fewest_77 : decode cX11_fewest 77 = .ok (.i2l, 1) := by decide +kernel
theorem dX11_fewest_78 : decode cX11_fewest 78 = .ok (.lmul, 1) := by decide +kernel
theorem dX11_fewest_79 : decode cX11_fewest 79 = .ok (.ldc2_w 218, 3) := by decide +kernel
theorem dX11_fewest_82 : decode cX11_fewest 82 = .ok (.lcmp, 1) := by decide +kernel
theorem dX11_fewest_83 : decode cX11_fewest 83 = .ok (.ifCond .le 6, 3) := by decide +kernel
theorem dX11_fewest_86 : decode cX11_fewest 86 = .ok (.bipush (-4), 2) := by decide +kernel
theorem dX11_fewest_88 : decode cX11_fewest 88 = .ok (.ireturn, 1) := by decide +kernel
theorem dX11_fewest_89 : decode cX11_fewest 89 = .ok (.aload_n 0, 1) := by decide +kernel
theorem dX11_fewest_90 : decode cX11_fewest 90 = .ok (.invokevirtual 197, 3) := by decide +kernel
theorem dX11_fewest_93 : decode cX11_fewest 93 = .ok (.ifCond .eq 6, 3) := by decide +kernel
theorem dX11_fewest_96 : decode cX11_fewest 96 = .ok (.bipush (-2), 2) := by decide +kernel
theorem dX11_fewest_98 : decode cX11_fewest 98 = .ok (.ireturn, 1) := by decide +kernel
theorem dX11_fewest_99 : decode cX11_fewest 99 = .ok (.aload_n 0, 1) := by decide +kernel
theorem dX11_fewest_100 : decode cX11_fewest 100 = .ok (.getfield 67, 3) := by decide +kernel
theorem dX11_fewest_103 : decode cX11_fewest 103 = .ok (.iconst 0, 1) := by decide +kernel
theorem dX11_fewest_104 : decode cX11_fewest 104 = .ok (.iconst 0, 1) := by decide +kernel
theorem dX11_fewest_105 : decode cX11_fewest 105 = .ok (.iastore, 1) := by decide +kernel
theorem dX11_fewest_106 : decode cX11_fewest 106 = .ok (.iconst 1, 1) := by decide +kernel
theorem dX11_fewest_107 : decode cX11_fewest 107 = .ok (.istore_n 3, 1) := by decide +kernel
theorem dX11_fewest_108 : decode cX11_fewest 108 = .ok (.iload_n 3, 1) := by decide +kernel
theorem dX11_fewest_109 : decode cX11_fewest 109 = .ok (.i2l, 1) := by decide +kernel
theorem dX11_fewest_110 : decode cX11_fewest 110 = .ok (.lload_n 1, 1) := by decide +kernel
theorem dX11_fewest_111 : decode cX11_fewest 111 = .ok (.lcmp, 1) := by decide +kernel
theorem dX11_fewest_112 : decode cX11_fewest 112 = .ok (.ifCond .ge 80, 3) := by decide +kernel
theorem dX11_fewest_115 : decode cX11_fewest 115 = .ok (.aload_n 0, 1) := by decide +kernel
theorem dX11_fewest_116 : decode cX11_fewest 116 = .ok (.getfield 67, 3) := by decide +kernel
theorem dX11_fewest_119 : decode cX11_fewest 119 = .ok (.iload_n 3, 1) := by decide +kernel
theorem dX11_fewest_120 : decode cX11_fewest 120 = .ok (.sipush 1000, 3) := by decide +kernel
theorem dX11_fewest_123 : decode cX11_fewest 123 = .ok (.iastore, 1) := by decide +kernel
theorem dX11_fewest_124 : decode cX11_fewest 124 = .ok (.iconst 0, 1) := by decide +kernel
theorem dX11_fewest_125 : decode cX11_fewest 125 = .ok (.istore 4, 2) := by decide +kernel
theorem dX11_fewest_127 : decode cX11_fewest 127 = .ok (.iload 4, 2) := by decide +kernel
theorem dX11_fewest_129 : decode cX11_fewest 129 = .ok (.aload_n 0, 1) := by decide +kernel
theorem dX11_fewest_130 : decode cX11_fewest 130 = .ok (.getfield 112, 3) := by decide +kernel
theorem dX11_fewest_133 : decode cX11_fewest 133 = .ok (.if_icmp .ge 53, 3) := by decide +kernel
theorem dX11_fewest_136 : decode cX11_fewest 136 = .ok (.aload_n 0, 1) := by decide +kernel
theorem dX11_fewest_137 : decode cX11_fewest 137 = .ok (.iload_n 3, 1) := by decide +kernel
theorem dX11_fewest_138 : decode cX11_fewest 138 = .ok (.aload_n 0, 1) := by decide +kernel
theorem dX11_fewest_139 : decode cX11_fewest 139 = .ok (.getfield 37, 3) := by decide +kernel
theorem dX11_fewest_142 : decode cX11_fewest 142 = .ok (.iload 4, 2) := by decide +kernel
theorem dX11_fewest_144 : decode cX11_fewest 144 = .ok (.aaload, 1) := by decide +kernel
theorem dX11_fewest_145 : decode cX11_fewest 145 = .ok (.invokevirtual 220, 3) := by decide +kernel
theorem dX11_fewest_148 : decode cX11_fewest 148 = .ok (.istore 5, 2) := by decide +kernel
theorem dX11_fewest_150 : decode cX11_fewest 150 = .ok (.iload 5, 2) := by decide +kernel
theorem dX11_fewest_152 : decode cX11_fewest 152 = .ok (.iload_n 3, 1) := by decide +kernel
theorem dX11_fewest_153 : decode cX11_fewest 153 = .ok (.if_icmp .ge 27, 3) := by decide +kernel
theorem dX11_fewest_156 : decode cX11_fewest 156 = .ok (.aload_n 0, 1) := by decide +kernel
theorem dX11_fewest_157 : decode cX11_fewest 157 = .ok (.getfield 67, 3) := by decide +kernel
theorem dX11_fewest_160 : decode cX11_fewest 160 = .ok (.iload_n 3, 1) := by decide +kernel
theorem dX11_fewest_161 : decode cX11_fewest 161 = .ok (.aload_n 0, 1) := by decide +kernel
theorem dX11_fewest_162 : decode cX11_fewest 162 = .ok (.getfield 67, 3) := by decide +kernel
theorem dX11_fewest_165 : decode cX11_fewest 165 = .ok (.iload_n 3, 1) := by decide +kernel
theorem dX11_fewest_166 : decode cX11_fewest 166 = .ok (.iaload, 1) := by decide +kernel
theorem dX11_fewest_167 : decode cX11_fewest 167 = .ok (.aload_n 0, 1) := by decide +kernel
theorem dX11_fewest_168 : decode cX11_fewest 168 = .ok (.getfield 67, 3) := by decide +kernel
theorem dX11_fewest_171 : decode cX11_fewest 171 = .ok (.iload 5, 2) := by decide +kernel
theorem dX11_fewest_173 : decode cX11_fewest 173 = .ok (.iaload, 1) := by decide +kernel
theorem dX11_fewest_174 : decode cX11_fewest 174 = .ok (.iconst 1, 1) := by decide +kernel
theorem dX11_fewest_175 : decode cX11_fewest 175 = .ok (.iadd, 1) := by decide +kernel
theorem dX11_fewest_176 : decode cX11_fewest 176 = .ok (.invokestatic 125, 3) := by decide +kernel
theorem dX11_fewest_179 : decode cX11_fewest 179 = .ok (.iastore, 1) := by decide +kernel
theorem dX11_fewest_180 : decode cX11_fewest 180 = .ok (.iinc 4 1, 3) := by decide +kernel
theorem dX11_fewest_183 : decode cX11_fewest 183 = .ok (.goto (-56), 3) := by decide +kernel
theorem dX11_fewest_186 : decode cX11_fewest 186 = .ok (.iinc 3 1, 3) := by decide +kernel
theorem dX11_fewest_189 : decode cX11_fewest 189 = .ok (.goto (-81), 3) := by decide +kernel
theorem dX11_fewest_192 : decode cX11_fewest 192 = .ok (.aload_n 0, 1) := by decide +kernel
theorem dX11_fewest_193 : decode cX11_fewest 193 = .ok (.iconst 0, 1) := by decide +kernel
theorem dX11_fewest_194 : decode cX11_fewest 194 = .ok (.putfield 190, 3) := by decide +kernel
theorem dX11_fewest_197 : decode cX11_fewest 197 = .ok (.lload_n 1, 1) := by decide +kernel
theorem dX11_fewest_198 : decode cX11_fewest 198 = .ok (.l2i, 1) := by decide +kernel
theorem dX11_fewest_199 : decode cX11_fewest 199 = .ok (.iconst 1, 1) := by decide +kernel
theorem dX11_fewest_200 : decode cX11_fewest 200 = .ok (.isub, 1) := by decide +kernel
theorem dX11_fewest_201 : decode cX11_fewest 201 = .ok (.istore_n 3, 1) := by decide +kernel
theorem dX11_fewest_202 : decode cX11_fewest 202 = .ok (.iload_n 3, 1) := by decide +kernel
theorem dX11_fewest_203 : decode cX11_fewest 203 = .ok (.ifCond .le 89, 3) := by decide +kernel
theorem dX11_fewest_206 : decode cX11_fewest 206 = .ok (.iconst 0, 1) := by decide +kernel
theorem dX11_fewest_207 : decode cX11_fewest 207 = .ok (.istore 4, 2) := by decide +kernel
theorem dX11_fewest_209 : decode cX11_fewest 209 = .ok (.aload_n 0, 1) := by decide +kernel
theorem dX11_fewest_210 : decode cX11_fewest 210 = .ok (.iload_n 3, 1) := by decide +kernel
theorem dX11_fewest_211 : decode cX11_fewest 211 = .ok (.aload_n 0, 1) := by decide +kernel
theorem dX11_fewest_212 : decode cX11_fewest 212 = .ok (.getfield 37, 3) := by decide +kernel
theorem dX11_fewest_215 : decode cX11_fewest 215 = .ok (.iload 4, 2) := by decide +kernel
theorem dX11_fewest_217 : decode cX11_fewest 217 = .ok (.aaload, 1) := by decide +kernel
theorem dX11_fewest_218 : decode cX11_fewest 218 = .ok (.invokevirtual 220, 3) := by decide +kernel
theorem dX11_fewest_221 : decode cX11_fewest 221 = .ok (.iload_n 3, 1) := by decide +kernel
theorem dX11_fewest_222 : decode cX11_fewest 222 = .ok (.if_icmp .ge 31, 3) := by decide +kernel
theorem dX11_fewest_225 : decode cX11_fewest 225 = .ok (.aload_n 0, 1) := by decide +kernel
theorem dX11_fewest_226 : decode cX11_fewest 226 = .ok (.getfield 67, 3) := by decide +kernel
theorem dX11_fewest_229 : decode cX11_fewest 229 = .ok (.aload_n 0, 1) := by decide +kernel
theorem dX11_fewest_230 : decode cX11_fewest 230 = .ok (.iload_n 3, 1) := by decide +kernel
theorem dX11_fewest_231 : decode cX11_fewest 231 = .ok (.aload_n 0, 1) := by decide +kernel
theorem dX11_fewest_232 : decode cX11_fewest 232 = .ok (.getfield 37, 3) := by decide +kernel
theorem dX11_fewest_235 : decode cX11_fewest 235 = .ok (.iload 4, 2) := by decide +kernel
theorem dX11_fewest_237 : decode cX11_fewest 237 = .ok (.aaload, 1) := by decide +kernel
theorem dX11_fewest_238 : decode cX11_fewest 238 = .ok (.invokevirtual 220, 3) := by decide +kernel
theorem dX11_fewest_241 : decode cX11_fewest 241 = .ok (.iaload, 1) := by decide +kernel
theorem dX11_fewest_242 : decode cX11_fewest 242 = .ok (.aload_n 0, 1) := by decide +kernel
theorem dX11_fewest_243 : decode cX11_fewest 243 = .ok (.getfield 67, 3) := by decide +kernel
theorem dX11_fewest_246 : decode cX11_fewest 246 = .ok (.iload_n 3, 1) := by decide +kernel
theorem dX11_fewest_247 : decode cX11_fewest 247 = .ok (.iaload, 1) := by decide +kernel
theorem dX11_fewest_248 : decode cX11_fewest 248 = .ok (.iconst 1, 1) := by decide +kernel
theorem dX11_fewest_249 : decode cX11_fewest 249 = .ok (.isub, 1) := by decide +kernel
theorem dX11_fewest_250 : decode cX11_fewest 250 = .ok (.if_icmp .eq 9, 3) := by decide +kernel
theorem dX11_fewest_253 : decode cX11_fewest 253 = .ok (.iinc 4 1, 3) := by decide +kernel
theorem dX11_fewest_256 : decode cX11_fewest 256 = .ok (.goto (-47), 3) := by decide +kernel
theorem dX11_fewest_259 : decode cX11_fewest 259 = .ok (.aload_n 0, 1) := by decide +kernel
theorem dX11_fewest_260 : decode cX11_fewest 260 = .ok (.aload_n 0, 1) := by decide +kernel
theorem dX11_fewest_261 : decode cX11_fewest 261 = .ok (.getfield 37, 3) := by decide +kernel
theorem dX11_fewest_264 : decode cX11_fewest 264 = .ok (.iload 4, 2) := by decide +kernel
theorem dX11_fewest_266 : decode cX11_fewest 266 = .ok (.aaload, 1) := by decide +kernel
theorem dX11_fewest_267 : decode cX11_fewest 267 = .ok (.invokevirtual 203, 3) := by decide +kernel
theorem dX11_fewest_270 : decode cX11_fewest 270 = .ok (.ifCond .ne 6, 3) := by decide +kernel
theorem dX11_fewest_273 : decode cX11_fewest 273 = .ok (.bipush (-3), 2) := by decide +kernel
theorem dX11_fewest_275 : decode cX11_fewest 275 = .ok (.ireturn, 1) := by decide +kernel
theorem dX11_fewest_276 : decode cX11_fewest 276 = .ok (.aload_n 0, 1) := by decide +kernel
theorem dX11_fewest_277 : decode cX11_fewest 277 = .ok (.iload_n 3, 1) := by decide +kernel
theorem dX11_fewest_278 : decode cX11_fewest 278 = .ok (.aload_n 0, 1) := by decide +kernel
theorem dX11_fewest_279 : decode cX11_fewest 279 = .ok (.getfield 37, 3) := by decide +kernel
theorem dX11_fewest_282 : decode cX11_fewest 282 = .ok (.iload 4, 2) := by decide +kernel
theorem dX11_fewest_284 : decode cX11_fewest 284 = .ok (.aaload, 1) := by decide +kernel
theorem dX11_fewest_285 : decode cX11_fewest 285 = .ok (.invokevirtual 220, 3) := by decide +kernel
theorem dX11_fewest_288 : decode cX11_fewest 288 = .ok (.istore_n 3, 1) := by decide +kernel
theorem dX11_fewest_289 : decode cX11_fewest 289 = .ok (.goto (-87), 3) := by decide +kernel
theorem dX11_fewest_292 : decode cX11_fewest 292 = .ok (.aload_n 0, 1) := by decide +kernel
theorem dX11_fewest_293 : decode cX11_fewest 293 = .ok (.invokevirtual 206, 3) := by decide +kernel
theorem dX11_fewest_296 : decode cX11_fewest 296 = .ok (.ireturn, 1) := by decide +kernel
set_option maxRecDepth 20000 in
theorem ggX11_slot_X11_isPattern : GoodIn wsX11_slot wsX11_isPattern := goodIn_r _ [10, 11, 12, 13, 14, 9, 15, 16, 17, 18, 19, 20, 21, 22, 23, 24, 25, 26, 27, 28, 4, 29, 30, 31, 32, 33, 34, 35, 36, 37, 38, 39, 40, 41, 42, 43, 44, 45, 46, 47, 48, 49, 50, 51, 52, 53, 54, 55, 56, 57, 58, 59, 60, 61, 62, 63, 64, 65, 66, 67, 68, 69, 70, 71, 72, 73, 74, 75, 76, 77, 78, 79] (by decide +kernel) (by decide +kernel)
set_option maxRecDepth 20000 in
theorem gX11_slot_X11_isPattern : GoodIn wsX11_slot (wsV RX11 168 RX11 yX11_isPattern wsX11_isPattern) := goodIn_app (goodIn_of _ (by decide +kernel)) ggX11_slot_X11_isPattern
set_option maxRecDepth 20000 in
theorem ggX11_slot_X11_in : GoodIn wsX11_slot wsX11_in := goodIn_r _ [37] (by decide +kernel) (by decide +kernel)
set_option maxRecDepth 20000 in
theorem gX11_slot_X11_in : GoodIn wsX11_slot (va_wsS RX11 134 yX11_in wsX11_in) := goodIn_app (goodIn_of _ (by decide +kernel)) ggX11_slot_X11_in
theorem dX11_slot_0 : decode cX11_slot 0 = .ok (.aload_n 0, 1) := by decide +kernel
theorem dX11_slot_1 : decode cX11_slot 1 = .ok (.iconst 0, 1) := by decide +kernel
theorem dX11_slot_2 : decode cX11_slot 2 = .ok (.putfield 99, 3) := by decide +kernel
theorem dX11_slot_5 : decode cX11_slot 5 = .ok (.aload_n 0, 1) := by decide +kernel
theorem dX11_slot_6 : decode cX11_slot 6 = .ok (.iload_n 1, 1) := by decide +kernel
theorem dX11_slot_7 : decode cX11_slot 7 = .ok (.invokevirtual 168, 3) := by decide +kernel
theorem dX11_slot_10 : decode cX11_slot 10 = .ok (.ifCond .eq 23, 3) := by decide +kernel
theorem dX11_slot_13 : decode cX11_slot 13 = .ok (.iload_n 2, 1) := by decide +kernel
theorem dX11_slot_14 : decode cX11_slot 14 = .ok (.iconst 1, 1) := by decide +kernel
theorem dX11_slot_15 : decode cX11_slot 15 = .ok (.sipush 1000, 3) := by decide +kernel
theorem dX11_slot_18 : decode cX11_slot 18 = .ok (.invokestatic 134, 3) := by decide +kernel
theorem dX11_slot_21 : decode cX11_slot 21 = .ok (.ifCond .eq 12, 3) := by decide +kernel
theorem dX11_slot_24 : decode cX11_slot 24 = .ok (.aload_n 0, 1) := by decide +kernel
theorem dX11_slot_25 : decode cX11_slot 25 = .ok (.getfield 151, 3) := by decide +kernel
theorem dX11_slot_28 : decode cX11_slot 28 = .ok (.bipush 60, 2) := by decide +kernel
theorem dX11_slot_30 : decode cX11_slot 30 = .ok (.if_icmp .ne 5, 3) := by decide +kernel
theorem dX11_slot_33 : decode cX11_slot 33 = .ok (.iconst (-1), 1) := by decide +kernel
theorem dX11_slot_34 : decode cX11_slot 34 = .ok (.ireturn, 1) := by decide +kernel
theorem dX11_slot_35 : decode cX11_slot 35 = .ok (.iconst 0, 1) := by decide +kernel
theorem dX11_slot_36 : decode cX11_slot 36 = .ok (.istore_n 3, 1) := by decide +kernel
theorem dX11_slot_37 : decode cX11_slot 37 = .ok (.iload_n 3, 1) := by decide +kernel
theorem dX11_slot_38 : decode cX11_slot 38 = .ok (.bipush 6, 2) := by decide +kernel
theorem dX11_slot_40 : decode cX11_slot 40 = .ok (.if_icmp .ge 28, 3) := by decide +kernel
theorem dX11_slot_43 : decode cX11_slot 43 = .ok (.aload_n 0, 1) := by decide +kernel
theorem dX11_slot_44 : decode cX11_slot 44 = .ok (.getfield 43, 3) := by decide +kernel
theorem dX11_slot_47 : decode cX11_slot 47 = .ok (.aload_n 0, 1) := by decide +kernel
theorem dX11_slot_48 : decode cX11_slot 48 = .ok (.getfield 151, 3) := by decide +kernel
theorem dX11_slot_51 : decode cX11_slot 51 = .ok (.aaload, 1) := by decide +kernel
theorem dX11_slot_52 : decode cX11_slot 52 = .ok (.iload_n 3, 1) := by decide +kernel
theorem dX11_slot_53 : decode cX11_slot 53 = .ok (.aload_n 0, 1) := by decide +kernel
theorem dX11_slot_54 : decode cX11_slot 54 = .ok (.getfield 37, 3) := by decide +kernel
theorem dX11_slot_57 : decode cX11_slot 57 = .ok (.iload_n 1, 1) := by decide +kernel
theorem dX11_slot_58 : decode cX11_slot 58 = .ok (.aaload, 1) := by decide +kernel
theorem dX11_slot_59 : decode cX11_slot 59 = .ok (.iload_n 3, 1) := by decide +kernel
theorem dX11_slot_60 : decode cX11_slot 60 = .ok (.iaload, 1) := by decide +kernel
theorem dX11_slot_61 : decode cX11_slot 61 = .ok (.iastore, 1) := by decide +kernel
theorem dX11_slot_62 : decode cX11_slot 62 = .ok (.iinc 3 1, 3) := by decide +kernel
theorem dX11_slot_65 : decode cX11_slot 65 = .ok (.goto (-28), 3) := by decide +kernel
theorem dX11_slot_68 : decode cX11_slot 68 = .ok (.aload_n 0, 1) := by decide +kernel
theorem dX11_slot_69 : decode cX11_slot 69 = .ok (.getfield 46, 3) := by decide +kernel
theorem dX11_slot_72 : decode cX11_slot 72 = .ok (.aload_n 0, 1) := by decide +kernel
theorem dX11_slot_73 : decode cX11_slot 73 = .ok (.getfield 151, 3) := by decide +kernel
theorem dX11_slot_76 : decode cX11_slot 76 = .ok (.iload_n 2, 1) := by decide +kernel
theorem dX11_slot_77 : decode cX11_slot 77 = .ok (.iastore, 1) := by decide +kernel
theorem dX11_slot_78 : decode cX11_slot 78 = .ok (.aload_n 0, 1) := by decide +kernel
theorem dX11_slot_79 : decode cX11_slot 79 = .ok (.dup, 1) := by decide +kernel
theorem dX11_slot_80 : decode cX11_slot 80 = .ok (.getfield 151, 3) := by decide +kernel
theorem dX11_slot_83 : decode cX11_slot 83 = .ok (.iconst 1, 1) := by decide +kernel
theorem dX11_slot_84 : decode cX11_slot 84 = .ok (.iadd, 1) := by decide +kernel
theorem dX11_slot_85 : decode cX11_slot 85 = .ok (.putfield 151, 3) := by decide +kernel
theorem dX11_slot_88 : decode cX11_slot 88 = .ok (.aload_n 0, 1) := by decide +kernel
theorem dX11_slot_89 : decode cX11_slot 89 = .ok (.getfield 151, 3) := by decide +kernel
theorem dX11_slot_92 : decode cX11_slot 92 = .ok (.iconst 1, 1) := by decide +kernel
theorem dX11_slot_93 : decode cX11_slot 93 = .ok (.isub, 1) := by decide +kernel
theorem dX11_slot_94 : decode cX11_slot 94 = .ok (.ireturn, 1) := by decide +kernel
set_option maxRecDepth 20000 in
theorem ggX11_isSlot_X11_in : GoodIn wsX11_isSlot wsX11_in := goodIn_r _ [5] (by decide +kernel) (by decide +kernel)
set_option maxRecDepth 20000 in
theorem gX11_isSlot_X11_in : GoodIn wsX11_isSlot (va_wsS RX11 134 yX11_in wsX11_in) := goodIn_app (goodIn_of _ (by decide +kernel)) ggX11_isSlot_X11_in
theorem dX11_isSlot_0 : decode cX11_isSlot 0 = .ok (.iload_n 1, 1) := by decide +kernel
theorem dX11_isSlot_1 : decode cX11_isSlot 1 = .ok (.iconst 0, 1) := by decide +kernel
theorem dX11_isSlot_2 : decode cX11_isSlot 2 = .ok (.aload_n 0, 1) := by decide +kernel
theorem dX11_isSlot_3 : decode cX11_isSlot 3 = .ok (.getfield 151, 3) := by decide +kernel
theorem dX11_isSlot_6 : decode cX11_isSlot 6 = .ok (.iconst 1, 1) := by decide +kernel
theorem dX11_isSlot_7 : decode cX11_isSlot 7 = .ok (.isub, 1) := by decide +kernel
theorem dX11_isSlot_8 : decode cX11_isSlot 8 = .ok (.invokestatic 134, 3) := by decide +kernel
theorem dX11_isSlot_11 : decode cX11_isSlot 11 = .ok (.ireturn, 1) := by decide +kernel
theorem dX11_goes_0 : decode cX11_goes 0 = .ok (.aload_n 0, 1) := by decide +kernel
theorem dX11_goes_1 : decode cX11_goes 1 = .ok (.getfield 43, 3) := by decide +kernel
theorem dX11_goes_4 : decode cX11_goes 4 = .ok (.iload_n 1, 1) := by decide +kernel
theorem dX11_goes_5 : decode cX11_goes 5 = .ok (.aaload, 1) := by decide +kernel
theorem dX11_goes_6 : decode cX11_goes 6 = .ok (.astore_n 2, 1) := by decide +kernel
theorem dX11_goes_7 : decode cX11_goes 7 = .ok (.iload_n 1, 1) := by decide +kernel
theorem dX11_goes_8 : decode cX11_goes 8 = .ok (.istore_n 3, 1) := by decide +kernel
theorem dX11_goes_9 : decode cX11_goes 9 = .ok (.iload_n 3, 1) := by decide +kernel
theorem dX11_goes_10 : decode cX11_goes 10 = .ok (.iconst 1, 1) := by decide +kernel
theorem dX11_goes_11 : decode cX11_goes 11 = .ok (.iadd, 1) := by decide +kernel
theorem dX11_goes_12 : decode cX11_goes 12 = .ok (.aload_n 0, 1) := by decide +kernel
theorem dX11_goes_13 : decode cX11_goes 13 = .ok (.getfield 151, 3) := by decide +kernel
theorem dX11_goes_16 : decode cX11_goes 16 = .ok (.if_icmp .ge 37, 3) := by decide +kernel
theorem dX11_goes_19 : decode cX11_goes 19 = .ok (.aload_n 0, 1) := by decide +kernel
theorem dX11_goes_20 : decode cX11_goes 20 = .ok (.getfield 43, 3) := by decide +kernel
theorem dX11_goes_23 : decode cX11_goes 23 = .ok (.iload_n 3, 1) := by decide +kernel
theorem dX11_goes_24 : decode cX11_goes 24 = .ok (.aload_n 0, 1) := by decide +kernel
theorem dX11_goes_25 : decode cX11_goes 25 = .ok (.getfield 43, 3) := by decide +kernel
theorem dX11_goes_28 : decode cX11_goes 28 = .ok (.iload_n 3, 1) := by decide +kernel
theorem dX11_goes_29 : decode cX11_goes 29 = .ok (.iconst 1, 1) := by decide +kernel
theorem dX11_goes_30 : decode cX11_goes 30 = .ok (.iadd, 1) := by decide +kernel
theorem dX11_goes_31 : decode cX11_goes 31 = .ok (.aaload, 1) := by decide +kernel
theorem dX11_goes_32 : decode cX11_goes 32 = .ok (.aastore, 1) := by decide +kernel
theorem dX11_goes_33 : decode cX11_goes 33 = .ok (.aload_n 0, 1) := by decide +kernel
theorem dX11_goes_34 : decode cX11_goes 34 = .ok (.getfield 46, 3) := by decide +kernel
theorem dX11_goes_37 : decode cX11_goes 37 = .ok (.iload_n 3, 1) := by decide +kernel
theorem dX11_goes_38 : decode cX11_goes 38 = .ok (.aload_n 0, 1) := by decide +kernel
theorem dX11_goes_39 : decode cX11_goes 39 = .ok (.getfield 46, 3) := by decide +kernel
theorem dX11_goes_42 : decode cX11_goes 42 = .ok (.iload_n 3, 1) := by decide +kernel
theorem dX11_goes_43 : decode cX11_goes 43 = .ok (.iconst 1, 1) := by decide +kernel
theorem dX11_goes_44 : decode cX11_goes 44 = .ok (.iadd, 1) := by decide +kernel
theorem dX11_goes_45 : decode cX11_goes 45 = .ok (.iaload, 1) := by decide +kernel
theorem dX11_goes_46 : decode cX11_goes 46 = .ok (.iastore, 1) := by decide +kernel
theorem dX11_goes_47 : decode cX11_goes 47 = .ok (.iinc 3 1, 3) := by decide +kernel
theorem dX11_goes_50 : decode cX11_goes 50 = .ok (.goto (-41), 3) := by decide +kernel
theorem dX11_goes_53 : decode cX11_goes 53 = .ok (.aload_n 0, 1) := by decide +kernel
theorem dX11_goes_54 : decode cX11_goes 54 = .ok (.dup, 1) := by decide +kernel
theorem dX11_goes_55 : decode cX11_goes 55 = .ok (.getfield 151, 3) := by decide +kernel
theorem dX11_goes_58 : decode cX11_goes 58 = .ok (.iconst 1, 1) := by decide +kernel
theorem dX11_goes_59 : decode cX11_goes 59 = .ok (.isub, 1) := by decide +kernel
theorem dX11_goes_60 : decode cX11_goes 60 = .ok (.putfield 151, 3) := by decide +kernel
theorem dX11_goes_63 : decode cX11_goes 63 = .ok (.aload_n 0, 1) := by decide +kernel
theorem dX11_goes_64 : decode cX11_goes 64 = .ok (.getfield 43, 3) := by decide +kernel
theorem dX11_goes_67 : decode cX11_goes 67 = .ok (.aload_n 0, 1) := by decide +kernel
theorem dX11_goes_68 : decode cX11_goes 68 = .ok (.getfield 151, 3) := by decide +kernel
theorem dX11_goes_71 : decode cX11_goes 71 = .ok (.aload_n 2, 1) := by decide +kernel
theorem dX11_goes_72 : decode cX11_goes 72 = .ok (.aastore, 1) := by decide +kernel
theorem dX11_goes_73 : decode cX11_goes 73 = .ok (.return_, 1) := by decide +kernel
set_option maxRecDepth 20000 in
theorem ggX11_drop_X11_isSlot : GoodIn wsX11_drop wsX11_isSlot := goodIn_r _ [7, 2, 8, 9, 6, 10, 17, 18, 19, 20, 21, 22, 23, 24, 25, 26, 27, 28, 29, 30, 31, 32, 33, 34, 35, 36, 37, 38, 39, 40, 41, 42, 43, 44, 45, 46, 47, 48, 49, 50, 51, 52, 53, 54, 55, 56, 57, 58] (by decide +kernel) (by decide +kernel)
set_option maxRecDepth 20000 in
theorem gX11_drop_X11_isSlot : GoodIn wsX11_drop (wsV RX11 224 RX11 yX11_isSlot wsX11_isSlot) := goodIn_app (goodIn_of _ (by decide +kernel)) ggX11_drop_X11_isSlot
set_option maxRecDepth 20000 in
theorem ggX11_drop_X11_goes : GoodIn wsX11_drop wsX11_goes := goodIn_r _ [14, 15, 2, 16, 17, 18, 19, 20, 21, 22, 23, 24, 25, 26, 27, 28, 29, 30, 31, 32, 33, 34, 35, 36, 37, 38, 39, 40, 41, 42, 43, 44, 45, 46, 47, 48, 49, 50, 51, 52, 53, 54, 55, 56, 57, 58] (by decide +kernel) (by decide +kernel)
set_option maxRecDepth 20000 in
theorem gX11_drop_X11_goes : GoodIn wsX11_drop (wsV RX11 227 RX11 yX11_goes wsX11_goes) := goodIn_app (goodIn_of _ (by decide +kernel)) ggX11_drop_X11_goes
theorem dX11_drop_0 : decode cX11_drop 0 = .ok (.aload_n 0, 1) := by decide +kernel
theorem dX11_drop_1 : decode cX11_drop 1 = .ok (.iconst 0, 1) := by decide +kernel
theorem dX11_drop_2 : decode cX11_drop 2 = .ok (.putfield 99, 3) := by decide +kernel
theorem dX11_drop_5 : decode cX11_drop 5 = .ok (.iload_n 1, 1) := by decide +kernel
theorem dX11_drop_6 : decode cX11_drop 6 = .ok (.iconst (-1), 1) := by decide +kernel
theorem dX11_drop_7 : decode cX11_drop 7 = .ok (.if_icmp .ne 10, 3) := by decide +kernel
theorem dX11_drop_10 : decode cX11_drop 10 = .ok (.aload_n 0, 1) := by decide +kernel
theorem dX11_drop_11 : decode cX11_drop 11 = .ok (.iconst 0, 1) := by decide +kernel
theorem dX11_drop_12 : decode cX11_drop 12 = .ok (.putfield 151, 3) := by decide +kernel
theorem dX11_drop_15 : decode cX11_drop 15 = .ok (.iconst 1, 1) := by decide +kernel
theorem dX11_drop_16 : decode cX11_drop 16 = .ok (.ireturn, 1) := by decide +kernel
theorem dX11_drop_17 : decode cX11_drop 17 = .ok (.aload_n 0, 1) := by decide +kernel
theorem dX11_drop_18 : decode cX11_drop 18 = .ok (.iload_n 1, 1) := by decide +kernel
theorem dX11_drop_19 : decode cX11_drop 19 = .ok (.invokevirtual 224, 3) := by decide +kernel
theorem dX11_drop_22 : decode cX11_drop 22 = .ok (.ifCond .ne 5, 3) := by decide +kernel
theorem dX11_drop_25 : decode cX11_drop 25 = .ok (.iconst 0, 1) := by decide +kernel
theorem dX11_drop_26 : decode cX11_drop 26 = .ok (.ireturn, 1) := by decide +kernel
theorem dX11_drop_27 : decode cX11_drop 27 = .ok (.aload_n 0, 1) := by decide +kernel
theorem dX11_drop_28 : decode cX11_drop 28 = .ok (.iload_n 1, 1) := by decide +kernel
theorem dX11_drop_29 : decode cX11_drop 29 = .ok (.invokevirtual 227, 3) := by decide +kernel
theorem dX11_drop_32 : decode cX11_drop 32 = .ok (.iconst 1, 1) := by decide +kernel
theorem dX11_drop_33 : decode cX11_drop 33 = .ok (.ireturn, 1) := by decide +kernel
theorem dX11_cutsOf_0 : decode cX11_cutsOf 0 = .ok (.aload_n 0, 1) := by decide +kernel
theorem dX11_cutsOf_1 : decode cX11_cutsOf 1 = .ok (.getfield 115, 3) := by decide +kernel
theorem dX11_cutsOf_4 : decode cX11_cutsOf 4 = .ok (.istore_n 3, 1) := by decide +kernel
theorem dX11_cutsOf_5 : decode cX11_cutsOf 5 = .ok (.iconst 0, 1) := by decide +kernel
theorem dX11_cutsOf_6 : decode cX11_cutsOf 6 = .ok (.istore 4, 2) := by decide +kernel
theorem dX11_cutsOf_8 : decode cX11_cutsOf 8 = .ok (.aload_n 2, 1) := by decide +kernel
theorem dX11_cutsOf_9 : decode cX11_cutsOf 9 = .ok (.iload 4, 2) := by decide +kernel
theorem dX11_cutsOf_11 : decode cX11_cutsOf 11 = .ok (.iload_n 3, 1) := by decide +kernel
theorem dX11_cutsOf_12 : decode cX11_cutsOf 12 = .ok (.iastore, 1) := by decide +kernel
theorem dX11_cutsOf_13 : decode cX11_cutsOf 13 = .ok (.iinc 4 1, 3) := by decide +kernel
theorem dX11_cutsOf_16 : decode cX11_cutsOf 16 = .ok (.iconst 0, 1) := by decide +kernel
theorem dX11_cutsOf_17 : decode cX11_cutsOf 17 = .ok (.istore 5, 2) := by decide +kernel
theorem dX11_cutsOf_19 : decode cX11_cutsOf 19 = .ok (.iload 5, 2) := by decide +kernel
theorem dX11_cutsOf_21 : decode cX11_cutsOf 21 = .ok (.aload_n 0, 1) := by decide +kernel
theorem dX11_cutsOf_22 : decode cX11_cutsOf 22 = .ok (.getfield 122, 3) := by decide +kernel
theorem dX11_cutsOf_25 : decode cX11_cutsOf 25 = .ok (.if_icmp .ge 45, 3) := by decide +kernel
theorem dX11_cutsOf_28 : decode cX11_cutsOf 28 = .ok (.iconst 0, 1) := by decide +kernel
theorem dX11_cutsOf_29 : decode cX11_cutsOf 29 = .ok (.istore 6, 2) := by decide +kernel
theorem dX11_cutsOf_31 : decode cX11_cutsOf 31 = .ok (.iload 6, 2) := by decide +kernel
theorem dX11_cutsOf_33 : decode cX11_cutsOf 33 = .ok (.aload_n 1, 1) := by decide +kernel
theorem dX11_cutsOf_34 : decode cX11_cutsOf 34 = .ok (.iload 5, 2) := by decide +kernel
theorem dX11_cutsOf_36 : decode cX11_cutsOf 36 = .ok (.iaload, 1) := by decide +kernel
theorem dX11_cutsOf_37 : decode cX11_cutsOf 37 = .ok (.if_icmp .ge 27, 3) := by decide +kernel
theorem dX11_cutsOf_40 : decode cX11_cutsOf 40 = .ok (.iload_n 3, 1) := by decide +kernel
theorem dX11_cutsOf_41 : decode cX11_cutsOf 41 = .ok (.aload_n 0, 1) := by decide +kernel
theorem dX11_cutsOf_42 : decode cX11_cutsOf 42 = .ok (.getfield 16, 3) := by decide +kernel
theorem dX11_cutsOf_45 : decode cX11_cutsOf 45 = .ok (.iload 5, 2) := by decide +kernel
theorem dX11_cutsOf_47 : decode cX11_cutsOf 47 = .ok (.iaload, 1) := by decide +kernel
theorem dX11_cutsOf_48 : decode cX11_cutsOf 48 = .ok (.iadd, 1) := by decide +kernel
theorem dX11_cutsOf_49 : decode cX11_cutsOf 49 = .ok (.istore_n 3, 1) := by decide +kernel
theorem dX11_cutsOf_50 : decode cX11_cutsOf 50 = .ok (.aload_n 2, 1) := by decide +kernel
theorem dX11_cutsOf_51 : decode cX11_cutsOf 51 = .ok (.iload 4, 2) := by decide +kernel
theorem dX11_cutsOf_53 : decode cX11_cutsOf 53 = .ok (.iload_n 3, 1) := by decide +kernel
theorem dX11_cutsOf_54 : decode cX11_cutsOf 54 = .ok (.iastore, 1) := by decide +kernel
theorem dX11_cutsOf_55 : decode cX11_cutsOf 55 = .ok (.iinc 4 1, 3) := by decide +kernel
theorem dX11_cutsOf_58 : decode cX11_cutsOf 58 = .ok (.iinc 6 1, 3) := by decide +kernel
theorem dX11_cutsOf_61 : decode cX11_cutsOf 61 = .ok (.goto (-30), 3) := by decide +kernel
theorem dX11_cutsOf_64 : decode cX11_cutsOf 64 = .ok (.iinc 5 1, 3) := by decide +kernel
theorem dX11_cutsOf_67 : decode cX11_cutsOf 67 = .ok (.goto (-48), 3) := by decide +kernel
theorem dX11_cutsOf_70 : decode cX11_cutsOf 70 = .ok (.iload 4, 2) := by decide +kernel
theorem dX11_cutsOf_72 : decode cX11_cutsOf 72 = .ok (.ireturn, 1) := by decide +kernel
theorem dX11_unlike_0 : decode cX11_unlike 0 = .ok (.iconst 0, 1) := by decide +kernel
theorem dX11_unlike_1 : decode cX11_unlike 1 = .ok (.istore 4, 2) := by decide +kernel
theorem dX11_unlike_3 : decode cX11_unlike 3 = .ok (.iconst 0, 1) := by decide +kernel
theorem dX11_unlike_4 : decode cX11_unlike 4 = .ok (.istore 5, 2) := by decide +kernel
theorem dX11_unlike_6 : decode cX11_unlike 6 = .ok (.iload 5, 2) := by decide +kernel
theorem dX11_unlike_8 : decode cX11_unlike 8 = .ok (.iload_n 3, 1) := by decide +kernel
theorem dX11_unlike_9 : decode cX11_unlike 9 = .ok (.if_icmp .ge 65, 3) := by decide +kernel
theorem dX11_unlike_12 : decode cX11_unlike 12 = .ok (.iconst 0, 1) := by decide +kernel
theorem dX11_unlike_13 : decode cX11_unlike 13 = .ok (.istore 6, 2) := by decide +kernel
theorem dX11_unlike_15 : decode cX11_unlike 15 = .ok (.iconst 0, 1) := by decide +kernel
theorem dX11_unlike_16 : decode cX11_unlike 16 = .ok (.istore 7, 2) := by decide +kernel
theorem dX11_unlike_18 : decode cX11_unlike 18 = .ok (.iload 7, 2) := by decide +kernel
theorem dX11_unlike_20 : decode cX11_unlike 20 = .ok (.iload_n 1, 1) := by decide +kernel
theorem dX11_unlike_21 : decode cX11_unlike 21 = .ok (.if_icmp .ge 32, 3) := by decide +kernel
theorem dX11_unlike_24 : decode cX11_unlike 24 = .ok (.iload 6, 2) := by decide +kernel
theorem dX11_unlike_26 : decode cX11_unlike 26 = .ok (.ifCond .ne 14, 3) := by decide +kernel
theorem dX11_unlike_29 : decode cX11_unlike 29 = .ok (.aload_n 0, 1) := by decide +kernel
theorem dX11_unlike_30 : decode cX11_unlike 30 = .ok (.iload 7, 2) := by decide +kernel
theorem dX11_unlike_32 : decode cX11_unlike 32 = .ok (.iaload, 1) := by decide +kernel
theorem dX11_unlike_33 : decode cX11_unlike 33 = .ok (.aload_n 2, 1) := by decide +kernel
theorem dX11_unlike_34 : decode cX11_unlike 34 = .ok (.iload 5, 2) := by decide +kernel
theorem dX11_unlike_36 : decode cX11_unlike 36 = .ok (.iaload, 1) := by decide +kernel
theorem dX11_unlike_37 : decode cX11_unlike 37 = .ok (.if_icmp .ne 7, 3) := by decide +kernel
theorem dX11_unlike_40 : decode cX11_unlike 40 = .ok (.iconst 1, 1) := by decide +kernel
theorem dX11_unlike_41 : decode cX11_unlike 41 = .ok (.goto 4, 3) := by decide +kernel
theorem dX11_unlike_44 : decode cX11_unlike 44 = .ok (.iconst 0, 1) := by decide +kernel
theorem dX11_unlike_45 : decode cX11_unlike 45 = .ok (.istore 6, 2) := by decide +kernel
theorem dX11_unlike_47 : decode cX11_unlike 47 = .ok (.iinc 7 1, 3) := by decide +kernel
theorem dX11_unlike_50 : decode cX11_unlike 50 = .ok (.goto (-32), 3) := by decide +kernel
theorem dX11_unlike_53 : decode cX11_unlike 53 = .ok (.iload 4, 2) := by decide +kernel
theorem dX11_unlike_55 : decode cX11_unlike 55 = .ok (.iload 6, 2) := by decide +kernel
theorem dX11_unlike_57 : decode cX11_unlike 57 = .ok (.ifCond .eq 7, 3) := by decide +kernel
theorem dX11_unlike_60 : decode cX11_unlike 60 = .ok (.iconst 0, 1) := by decide +kernel
theorem dX11_unlike_61 : decode cX11_unlike 61 = .ok (.goto 4, 3) := by decide +kernel
theorem dX11_unlike_64 : decode cX11_unlike 64 = .ok (.iconst 1, 1) := by decide +kernel
theorem dX11_unlike_65 : decode cX11_unlike 65 = .ok (.iadd, 1) := by decide +kernel
theorem dX11_unlike_66 : decode cX11_unlike 66 = .ok (.istore 4, 2) := by decide +kernel
theorem dX11_unlike_68 : decode cX11_unlike 68 = .ok (.iinc 5 1, 3) := by decide +kernel
theorem dX11_unlike_71 : decode cX11_unlike 71 = .ok (.goto (-65), 3) := by decide +kernel
theorem dX11_unlike_74 : decode cX11_unlike 74 = .ok (.iload 4, 2) := by decide +kernel
theorem dX11_unlike_76 : decode cX11_unlike 76 = .ok (.ireturn, 1) := by decide +kernel
set_option maxRecDepth 20000 in
theorem ggX11_moves_X11_cutsOf : GoodIn wsX11_moves wsX11_cutsOf := goodIn_r _ [10, 11, 12, 13, 17, 18, 19, 20, 21, 22, 23, 24, 25, 26, 27, 28, 29, 30, 31, 32, 33, 34, 35, 36, 37, 38, 39, 40, 41, 42, 43, 44, 45, 46, 47, 48, 49, 50, 51, 52, 53, 54, 55, 56, 57, 58] (by decide +kernel) (by decide +kernel)
set_option maxRecDepth 20000 in
theorem gX11_moves_X11_cutsOf : GoodIn wsX11_moves (wsV RX11 231 RX11 yX11_cutsOf wsX11_cutsOf) := goodIn_app (goodIn_of _ (by decide +kernel)) ggX11_moves_X11_cutsOf
set_option maxRecDepth 20000 in
theorem ggX11_moves_X11_unlike : GoodIn wsX11_moves wsX11_unlike := goodIn_r _ [16] (by decide +kernel) (by decide +kernel)
set_option maxRecDepth 20000 in
theorem gX11_moves_X11_unlike : GoodIn wsX11_moves (va_wsS RX11 238 yX11_unlike wsX11_unlike) := goodIn_app (goodIn_of _ (by decide +kernel)) ggX11_moves_X11_unlike
theorem dX11_moves_0 : decode cX11_moves 0 = .ok (.aload_n 0, 1) := by decide +kernel
theorem dX11_moves_1 : decode cX11_moves 1 = .ok (.aload_n 0, 1) := by decide +kernel
theorem dX11_moves_2 : decode cX11_moves 2 = .ok (.getfield 43, 3) := by decide +kernel
theorem dX11_moves_5 : decode cX11_moves 5 = .ok (.iload_n 2, 1) := by decide +kernel
theorem dX11_moves_6 : decode cX11_moves 6 = .ok (.aaload, 1) := by decide +kernel
theorem dX11_moves_7 : decode cX11_moves 7 = .ok (.aload_n 0, 1) := by decide +kernel
theorem dX11_moves_8 : decode cX11_moves 8 = .ok (.getfield 79, 3) := by decide +kernel
theorem dX11_moves_11 : decode cX11_moves 11 = .ok (.invokevirtual 231, 3) := by decide +kernel
theorem dX11_moves_14 : decode cX11_moves 14 = .ok (.istore_n 3, 1) := by decide +kernel
theorem dX11_moves_15 : decode cX11_moves 15 = .ok (.iload_n 1, 1) := by decide +kernel
theorem dX11_moves_16 : decode cX11_moves 16 = .ok (.iconst (-1), 1) := by decide +kernel
theorem dX11_moves_17 : decode cX11_moves 17 = .ok (.if_icmp .ne 20, 3) := by decide +kernel
theorem dX11_moves_20 : decode cX11_moves 20 = .ok (.aload_n 0, 1) := by decide +kernel
theorem dX11_moves_21 : decode cX11_moves 21 = .ok (.getfield 73, 3) := by decide +kernel
theorem dX11_moves_24 : decode cX11_moves 24 = .ok (.aload_n 0, 1) := by decide +kernel
theorem dX11_moves_25 : decode cX11_moves 25 = .ok (.getfield 235, 3) := by decide +kernel
theorem dX11_moves_28 : decode cX11_moves 28 = .ok (.aload_n 0, 1) := by decide +kernel
theorem dX11_moves_29 : decode cX11_moves 29 = .ok (.getfield 79, 3) := by decide +kernel
theorem dX11_moves_32 : decode cX11_moves 32 = .ok (.iload_n 3, 1) := by decide +kernel
theorem dX11_moves_33 : decode cX11_moves 33 = .ok (.invokestatic 238, 3) := by decide +kernel
theorem dX11_moves_36 : decode cX11_moves 36 = .ok (.ireturn, 1) := by decide +kernel
theorem dX11_moves_37 : decode cX11_moves 37 = .ok (.aload_n 0, 1) := by decide +kernel
theorem dX11_moves_38 : decode cX11_moves 38 = .ok (.aload_n 0, 1) := by decide +kernel
theorem dX11_moves_39 : decode cX11_moves 39 = .ok (.getfield 43, 3) := by decide +kernel
theorem dX11_moves_42 : decode cX11_moves 42 = .ok (.iload_n 1, 1) := by decide +kernel
theorem dX11_moves_43 : decode cX11_moves 43 = .ok (.aaload, 1) := by decide +kernel
theorem dX11_moves_44 : decode cX11_moves 44 = .ok (.aload_n 0, 1) := by decide +kernel
theorem dX11_moves_45 : decode cX11_moves 45 = .ok (.getfield 76, 3) := by decide +kernel
theorem dX11_moves_48 : decode cX11_moves 48 = .ok (.invokevirtual 231, 3) := by decide +kernel
theorem dX11_moves_51 : decode cX11_moves 51 = .ok (.istore 4, 2) := by decide +kernel
theorem dX11_moves_53 : decode cX11_moves 53 = .ok (.aload_n 0, 1) := by decide +kernel
theorem dX11_moves_54 : decode cX11_moves 54 = .ok (.getfield 76, 3) := by decide +kernel
theorem dX11_moves_57 : decode cX11_moves 57 = .ok (.iload 4, 2) := by decide +kernel
theorem dX11_moves_59 : decode cX11_moves 59 = .ok (.aload_n 0, 1) := by decide +kernel
theorem dX11_moves_60 : decode cX11_moves 60 = .ok (.getfield 79, 3) := by decide +kernel
theorem dX11_moves_63 : decode cX11_moves 63 = .ok (.iload_n 3, 1) := by decide +kernel
theorem dX11_moves_64 : decode cX11_moves 64 = .ok (.invokestatic 238, 3) := by decide +kernel
theorem dX11_moves_67 : decode cX11_moves 67 = .ok (.ireturn, 1) := by decide +kernel
set_option maxRecDepth 20000 in
theorem ggX11_line_X11_moves : GoodIn wsX11_line wsX11_moves := goodIn_r _ [18, 9, 19, 20, 21, 22, 23, 24, 25, 17, 26, 27, 28, 29, 30, 31, 32, 36, 37, 38, 39, 40, 41, 42, 43, 44, 45, 46, 47, 48, 49, 50, 51, 52, 53, 54, 55, 56, 57, 58, 59, 60, 61, 62, 63, 64, 65, 66, 67, 68, 69, 70, 71, 72, 73, 74, 75, 76, 77] (by decide +kernel) (by decide +kernel)
set_option maxRecDepth 20000 in
theorem gX11_line_X11_moves : GoodIn wsX11_line (wsV RX11 242 RX11 yX11_moves wsX11_moves) := goodIn_app (goodIn_of _ (by decide +kernel)) ggX11_line_X11_moves
set_option maxRecDepth 20000 in
theorem ggX11_line_X11_copy : GoodIn wsX11_line wsX11_copy := goodIn_r _ [35] (by decide +kernel) (by decide +kernel)
set_option maxRecDepth 20000 in
theorem gX11_line_X11_copy : GoodIn wsX11_line (va_wsS RX11 193 yX11_copy wsX11_copy) := goodIn_app (goodIn_of _ (by decide +kernel)) ggX11_line_X11_copy
