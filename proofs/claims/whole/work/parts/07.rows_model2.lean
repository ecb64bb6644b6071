theorem dX11_line_0 : decode cX11_line 0 = .ok (.aload_n 0, 1) := by decide +kernel
theorem dX11_line_1 : decode cX11_line 1 = .ok (.iconst 0, 1) := by decide +kernel
theorem dX11_line_2 : decode cX11_line 2 = .ok (.putfield 99, 3) := by decide +kernel
theorem dX11_line_5 : decode cX11_line 5 = .ok (.aload_n 0, 1) := by decide +kernel
theorem dX11_line_6 : decode cX11_line 6 = .ok (.getfield 151, 3) := by decide +kernel
theorem dX11_line_9 : decode cX11_line 9 = .ok (.bipush 8, 2) := by decide +kernel
theorem dX11_line_11 : decode cX11_line 11 = .ok (.if_icmp .le 5, 3) := by decide +kernel
theorem dX11_line_14 : decode cX11_line 14 = .ok (.iconst (-1), 1) := by decide +kernel
theorem dX11_line_15 : decode cX11_line 15 = .ok (.ireturn, 1) := by decide +kernel
theorem dX11_line_16 : decode cX11_line 16 = .ok (.iconst 1, 1) := by decide +kernel
theorem dX11_line_17 : decode cX11_line 17 = .ok (.aload_n 0, 1) := by decide +kernel
theorem dX11_line_18 : decode cX11_line 18 = .ok (.getfield 151, 3) := by decide +kernel
theorem dX11_line_21 : decode cX11_line 21 = .ok (.ishl, 1) := by decide +kernel
theorem dX11_line_22 : decode cX11_line 22 = .ok (.istore_n 1, 1) := by decide +kernel
theorem dX11_line_23 : decode cX11_line 23 = .ok (.iload_n 1, 1) := by decide +kernel
theorem dX11_line_24 : decode cX11_line 24 = .ok (.iconst 1, 1) := by decide +kernel
theorem dX11_line_25 : decode cX11_line 25 = .ok (.isub, 1) := by decide +kernel
theorem dX11_line_26 : decode cX11_line 26 = .ok (.istore_n 2, 1) := by decide +kernel
theorem dX11_line_27 : decode cX11_line 27 = .ok (.iload_n 2, 1) := by decide +kernel
theorem dX11_line_28 : decode cX11_line 28 = .ok (.ifCond .lt 147, 3) := by decide +kernel
theorem dX11_line_31 : decode cX11_line 31 = .ok (.iconst 0, 1) := by decide +kernel
theorem dX11_line_32 : decode cX11_line 32 = .ok (.istore_n 3, 1) := by decide +kernel
theorem dX11_line_33 : decode cX11_line 33 = .ok (.iload_n 3, 1) := by decide +kernel
theorem dX11_line_34 : decode cX11_line 34 = .ok (.bipush 9, 2) := by decide +kernel
theorem dX11_line_36 : decode cX11_line 36 = .ok (.if_icmp .ge 133, 3) := by decide +kernel
theorem dX11_line_39 : decode cX11_line 39 = .ok (.aload_n 0, 1) := by decide +kernel
theorem dX11_line_40 : decode cX11_line 40 = .ok (.getfield 82, 3) := by decide +kernel
theorem dX11_line_43 : decode cX11_line 43 = .ok (.iload_n 2, 1) := by decide +kernel
theorem dX11_line_44 : decode cX11_line 44 = .ok (.aaload, 1) := by decide +kernel
theorem dX11_line_45 : decode cX11_line 45 = .ok (.iload_n 3, 1) := by decide +kernel
theorem dX11_line_46 : decode cX11_line 46 = .ok (.iload_n 2, 1) := by decide +kernel
theorem dX11_line_47 : decode cX11_line 47 = .ok (.iload_n 1, 1) := by decide +kernel
theorem dX11_line_48 : decode cX11_line 48 = .ok (.iconst 1, 1) := by decide +kernel
theorem dX11_line_49 : decode cX11_line 49 = .ok (.isub, 1) := by decide +kernel
theorem dX11_line_50 : decode cX11_line 50 = .ok (.if_icmp .ne 7, 3) := by decide +kernel
theorem dX11_line_53 : decode cX11_line 53 = .ok (.iconst 0, 1) := by decide +kernel
theorem dX11_line_54 : decode cX11_line 54 = .ok (.goto 5, 3) := by decide +kernel
theorem dX11_line_57 : decode cX11_line 57 = .ok (.ldc 185, 2) := by decide +kernel
theorem dX11_line_59 : decode cX11_line 59 = .ok (.iastore, 1) := by decide +kernel
theorem dX11_line_60 : decode cX11_line 60 = .ok (.iconst 0, 1) := by decide +kernel
theorem dX11_line_61 : decode cX11_line 61 = .ok (.istore 4, 2) := by decide +kernel
theorem dX11_line_63 : decode cX11_line 63 = .ok (.iload 4, 2) := by decide +kernel
theorem dX11_line_65 : decode cX11_line 65 = .ok (.aload_n 0, 1) := by decide +kernel
theorem dX11_line_66 : decode cX11_line 66 = .ok (.getfield 151, 3) := by decide +kernel
theorem dX11_line_69 : decode cX11_line 69 = .ok (.if_icmp .ge 94, 3) := by decide +kernel
theorem dX11_line_72 : decode cX11_line 72 = .ok (.iload_n 3, 1) := by decide +kernel
theorem dX11_line_73 : decode cX11_line 73 = .ok (.bipush 8, 2) := by decide +kernel
theorem dX11_line_75 : decode cX11_line 75 = .ok (.if_icmp .ne 10, 3) := by decide +kernel
theorem dX11_line_78 : decode cX11_line 78 = .ok (.iload_n 2, 1) := by decide +kernel
theorem dX11_line_79 : decode cX11_line 79 = .ok (.ifCond .ne 84, 3) := by decide +kernel
theorem dX11_line_82 : decode cX11_line 82 = .ok (.goto 11, 3) := by decide +kernel
theorem dX11_line_85 : decode cX11_line 85 = .ok (.iload_n 3, 1) := by decide +kernel
theorem dX11_line_86 : decode cX11_line 86 = .ok (.aload_n 0, 1) := by decide +kernel
theorem dX11_line_87 : decode cX11_line 87 = .ok (.getfield 151, 3) := by decide +kernel
theorem dX11_line_90 : decode cX11_line 90 = .ok (.if_icmp .ge 73, 3) := by decide +kernel
theorem dX11_line_93 : decode cX11_line 93 = .ok (.iload_n 2, 1) := by decide +kernel
theorem dX11_line_94 : decode cX11_line 94 = .ok (.iload 4, 2) := by decide +kernel
theorem dX11_line_96 : decode cX11_line 96 = .ok (.ishr, 1) := by decide +kernel
theorem dX11_line_97 : decode cX11_line 97 = .ok (.iconst 1, 1) := by decide +kernel
theorem dX11_line_98 : decode cX11_line 98 = .ok (.iand, 1) := by decide +kernel
theorem dX11_line_99 : decode cX11_line 99 = .ok (.iconst 1, 1) := by decide +kernel
theorem dX11_line_100 : decode cX11_line 100 = .ok (.if_icmp .ne 6, 3) := by decide +kernel
theorem dX11_line_103 : decode cX11_line 103 = .ok (.goto 54, 3) := by decide +kernel
theorem dX11_line_106 : decode cX11_line 106 = .ok (.aload_n 0, 1) := by decide +kernel
theorem dX11_line_107 : decode cX11_line 107 = .ok (.getfield 82, 3) := by decide +kernel
theorem dX11_line_110 : decode cX11_line 110 = .ok (.iload_n 2, 1) := by decide +kernel
theorem dX11_line_111 : decode cX11_line 111 = .ok (.aaload, 1) := by decide +kernel
theorem dX11_line_112 : decode cX11_line 112 = .ok (.iload_n 3, 1) := by decide +kernel
theorem dX11_line_113 : decode cX11_line 113 = .ok (.aload_n 0, 1) := by decide +kernel
theorem dX11_line_114 : decode cX11_line 114 = .ok (.getfield 82, 3) := by decide +kernel
theorem dX11_line_117 : decode cX11_line 117 = .ok (.iload_n 2, 1) := by decide +kernel
theorem dX11_line_118 : decode cX11_line 118 = .ok (.aaload, 1) := by decide +kernel
theorem dX11_line_119 : decode cX11_line 119 = .ok (.iload_n 3, 1) := by decide +kernel
theorem dX11_line_120 : decode cX11_line 120 = .ok (.iaload, 1) := by decide +kernel
theorem dX11_line_121 : decode cX11_line 121 = .ok (.aload_n 0, 1) := by decide +kernel
theorem dX11_line_122 : decode cX11_line 122 = .ok (.iload_n 3, 1) := by decide +kernel
theorem dX11_line_123 : decode cX11_line 123 = .ok (.bipush 8, 2) := by decide +kernel
theorem dX11_line_125 : decode cX11_line 125 = .ok (.if_icmp .ne 7, 3) := by decide +kernel
theorem dX11_line_128 : decode cX11_line 128 = .ok (.iconst (-1), 1) := by decide +kernel
theorem dX11_line_129 : decode cX11_line 129 = .ok (.goto 4, 3) := by decide +kernel
theorem dX11_line_132 : decode cX11_line 132 = .ok (.iload_n 3, 1) := by decide +kernel
theorem dX11_line_133 : decode cX11_line 133 = .ok (.iload 4, 2) := by decide +kernel
theorem dX11_line_135 : decode cX11_line 135 = .ok (.invokevirtual 242, 3) := by decide +kernel
theorem dX11_line_138 : decode cX11_line 138 = .ok (.aload_n 0, 1) := by decide +kernel
theorem dX11_line_139 : decode cX11_line 139 = .ok (.getfield 82, 3) := by decide +kernel
theorem dX11_line_142 : decode cX11_line 142 = .ok (.iload_n 2, 1) := by decide +kernel
theorem dX11_line_143 : decode cX11_line 143 = .ok (.iconst 1, 1) := by decide +kernel
theorem dX11_line_144 : decode cX11_line 144 = .ok (.iload 4, 2) := by decide +kernel
theorem dX11_line_146 : decode cX11_line 146 = .ok (.ishl, 1) := by decide +kernel
theorem dX11_line_147 : decode cX11_line 147 = .ok (.ior, 1) := by decide +kernel
theorem dX11_line_148 : decode cX11_line 148 = .ok (.aaload, 1) := by decide +kernel
theorem dX11_line_149 : decode cX11_line 149 = .ok (.iload 4, 2) := by decide +kernel
theorem dX11_line_151 : decode cX11_line 151 = .ok (.iaload, 1) := by decide +kernel
theorem dX11_line_152 : decode cX11_line 152 = .ok (.iadd, 1) := by decide +kernel
theorem dX11_line_153 : decode cX11_line 153 = .ok (.invokestatic 125, 3) := by decide +kernel
theorem dX11_line_156 : decode cX11_line 156 = .ok (.iastore, 1) := by decide +kernel
theorem dX11_line_157 : decode cX11_line 157 = .ok (.iinc 4 1, 3) := by decide +kernel
theorem dX11_line_160 : decode cX11_line 160 = .ok (.goto (-97), 3) := by decide +kernel
theorem dX11_line_163 : decode cX11_line 163 = .ok (.iinc 3 1, 3) := by decide +kernel
theorem dX11_line_166 : decode cX11_line 166 = .ok (.goto (-133), 3) := by decide +kernel
theorem dX11_line_169 : decode cX11_line 169 = .ok (.iinc 2 (-1), 3) := by decide +kernel
theorem dX11_line_172 : decode cX11_line 172 = .ok (.goto (-145), 3) := by decide +kernel
theorem dX11_line_175 : decode cX11_line 175 = .ok (.aload_n 0, 1) := by decide +kernel
theorem dX11_line_176 : decode cX11_line 176 = .ok (.getfield 151, 3) := by decide +kernel
theorem dX11_line_179 : decode cX11_line 179 = .ok (.ifCond .ne 5, 3) := by decide +kernel
theorem dX11_line_182 : decode cX11_line 182 = .ok (.iconst 0, 1) := by decide +kernel
theorem dX11_line_183 : decode cX11_line 183 = .ok (.ireturn, 1) := by decide +kernel
theorem dX11_line_184 : decode cX11_line 184 = .ok (.aload_n 0, 1) := by decide +kernel
theorem dX11_line_185 : decode cX11_line 185 = .ok (.getfield 82, 3) := by decide +kernel
theorem dX11_line_188 : decode cX11_line 188 = .ok (.iconst 0, 1) := by decide +kernel
theorem dX11_line_189 : decode cX11_line 189 = .ok (.aaload, 1) := by decide +kernel
theorem dX11_line_190 : decode cX11_line 190 = .ok (.bipush 8, 2) := by decide +kernel
theorem dX11_line_192 : decode cX11_line 192 = .ok (.iaload, 1) := by decide +kernel
theorem dX11_line_193 : decode cX11_line 193 = .ok (.istore_n 2, 1) := by decide +kernel
theorem dX11_line_194 : decode cX11_line 194 = .ok (.aload_n 0, 1) := by decide +kernel
theorem dX11_line_195 : decode cX11_line 195 = .ok (.getfield 43, 3) := by decide +kernel
theorem dX11_line_198 : decode cX11_line 198 = .ok (.aload_n 0, 1) := by decide +kernel
theorem dX11_line_199 : decode cX11_line 199 = .ok (.getfield 46, 3) := by decide +kernel
theorem dX11_line_202 : decode cX11_line 202 = .ok (.aload_n 0, 1) := by decide +kernel
theorem dX11_line_203 : decode cX11_line 203 = .ok (.getfield 151, 3) := by decide +kernel
theorem dX11_line_206 : decode cX11_line 206 = .ok (.aload_n 0, 1) := by decide +kernel
theorem dX11_line_207 : decode cX11_line 207 = .ok (.getfield 49, 3) := by decide +kernel
theorem dX11_line_210 : decode cX11_line 210 = .ok (.aload_n 0, 1) := by decide +kernel
theorem dX11_line_211 : decode cX11_line 211 = .ok (.getfield 52, 3) := by decide +kernel
theorem dX11_line_214 : decode cX11_line 214 = .ok (.invokestatic 193, 3) := by decide +kernel
theorem dX11_line_217 : decode cX11_line 217 = .ok (.bipush 8, 2) := by decide +kernel
theorem dX11_line_219 : decode cX11_line 219 = .ok (.newarray .int, 2) := by decide +kernel
theorem dX11_line_221 : decode cX11_line 221 = .ok (.astore_n 3, 1) := by decide +kernel
theorem dX11_line_222 : decode cX11_line 222 = .ok (.iconst 0, 1) := by decide +kernel
theorem dX11_line_223 : decode cX11_line 223 = .ok (.istore 4, 2) := by decide +kernel
theorem dX11_line_225 : decode cX11_line 225 = .ok (.bipush 8, 2) := by decide +kernel
theorem dX11_line_227 : decode cX11_line 227 = .ok (.istore 5, 2) := by decide +kernel
theorem dX11_line_229 : decode cX11_line 229 = .ok (.iconst 0, 1) := by decide +kernel
theorem dX11_line_230 : decode cX11_line 230 = .ok (.istore 6, 2) := by decide +kernel
theorem dX11_line_232 : decode cX11_line 232 = .ok (.iload 6, 2) := by decide +kernel
theorem dX11_line_234 : decode cX11_line 234 = .ok (.aload_n 0, 1) := by decide +kernel
theorem dX11_line_235 : decode cX11_line 235 = .ok (.getfield 151, 3) := by decide +kernel
theorem dX11_line_238 : decode cX11_line 238 = .ok (.if_icmp .ge 96, 3) := by decide +kernel
theorem dX11_line_241 : decode cX11_line 241 = .ok (.iconst 0, 1) := by decide +kernel
theorem dX11_line_242 : decode cX11_line 242 = .ok (.istore 7, 2) := by decide +kernel
theorem dX11_line_244 : decode cX11_line 244 = .ok (.iload 4, 2) := by decide +kernel
theorem dX11_line_246 : decode cX11_line 246 = .ok (.iload 7, 2) := by decide +kernel
theorem dX11_line_248 : decode cX11_line 248 = .ok (.ishr, 1) := by decide +kernel
theorem dX11_line_249 : decode cX11_line 249 = .ok (.iconst 1, 1) := by decide +kernel
theorem dX11_line_250 : decode cX11_line 250 = .ok (.iand, 1) := by decide +kernel
theorem dX11_line_251 : decode cX11_line 251 = .ok (.iconst 1, 1) := by decide +kernel
theorem dX11_line_252 : decode cX11_line 252 = .ok (.if_icmp .eq 51, 3) := by decide +kernel
theorem dX11_line_255 : decode cX11_line 255 = .ok (.aload_n 0, 1) := by decide +kernel
theorem dX11_line_256 : decode cX11_line 256 = .ok (.iload 5, 2) := by decide +kernel
theorem dX11_line_258 : decode cX11_line 258 = .ok (.bipush 8, 2) := by decide +kernel
theorem dX11_line_260 : decode cX11_line 260 = .ok (.if_icmp .ne 7, 3) := by decide +kernel
theorem dX11_line_263 : decode cX11_line 263 = .ok (.iconst (-1), 1) := by decide +kernel
theorem dX11_line_264 : decode cX11_line 264 = .ok (.goto 5, 3) := by decide +kernel
theorem dX11_line_267 : decode cX11_line 267 = .ok (.iload 5, 2) := by decide +kernel
theorem dX11_line_269 : decode cX11_line 269 = .ok (.iload 7, 2) := by decide +kernel
theorem dX11_line_271 : decode cX11_line 271 = .ok (.invokevirtual 242, 3) := by decide +kernel
theorem dX11_line_274 : decode cX11_line 274 = .ok (.aload_n 0, 1) := by decide +kernel
theorem dX11_line_275 : decode cX11_line 275 = .ok (.getfield 82, 3) := by decide +kernel
theorem dX11_line_278 : decode cX11_line 278 = .ok (.iload 4, 2) := by decide +kernel
theorem dX11_line_280 : decode cX11_line 280 = .ok (.iconst 1, 1) := by decide +kernel
theorem dX11_line_281 : decode cX11_line 281 = .ok (.iload 7, 2) := by decide +kernel
theorem dX11_line_283 : decode cX11_line 283 = .ok (.ishl, 1) := by decide +kernel
theorem dX11_line_284 : decode cX11_line 284 = .ok (.ior, 1) := by decide +kernel
theorem dX11_line_285 : decode cX11_line 285 = .ok (.aaload, 1) := by decide +kernel
theorem dX11_line_286 : decode cX11_line 286 = .ok (.iload 7, 2) := by decide +kernel
theorem dX11_line_288 : decode cX11_line 288 = .ok (.iaload, 1) := by decide +kernel
theorem dX11_line_289 : decode cX11_line 289 = .ok (.iadd, 1) := by decide +kernel
theorem dX11_line_290 : decode cX11_line 290 = .ok (.aload_n 0, 1) := by decide +kernel
theorem dX11_line_291 : decode cX11_line 291 = .ok (.getfield 82, 3) := by decide +kernel
theorem dX11_line_294 : decode cX11_line 294 = .ok (.iload 4, 2) := by decide +kernel
theorem dX11_line_296 : decode cX11_line 296 = .ok (.aaload, 1) := by decide +kernel
theorem dX11_line_297 : decode cX11_line 297 = .ok (.iload 5, 2) := by decide +kernel
theorem dX11_line_299 : decode cX11_line 299 = .ok (.iaload, 1) := by decide +kernel
theorem dX11_line_300 : decode cX11_line 300 = .ok (.if_icmp .eq 9, 3) := by decide +kernel
theorem dX11_line_303 : decode cX11_line 303 = .ok (.iinc 7 1, 3) := by decide +kernel
theorem dX11_line_306 : decode cX11_line 306 = .ok (.goto (-62), 3) := by decide +kernel
theorem dX11_line_309 : decode cX11_line 309 = .ok (.aload_n 3, 1) := by decide +kernel
theorem dX11_line_310 : decode cX11_line 310 = .ok (.iload 6, 2) := by decide +kernel
theorem dX11_line_312 : decode cX11_line 312 = .ok (.iload 7, 2) := by decide +kernel
theorem dX11_line_314 : decode cX11_line 314 = .ok (.iastore, 1) := by decide +kernel
theorem dX11_line_315 : decode cX11_line 315 = .ok (.iload 4, 2) := by decide +kernel
theorem dX11_line_317 : decode cX11_line 317 = .ok (.iconst 1, 1) := by decide +kernel
theorem dX11_line_318 : decode cX11_line 318 = .ok (.iload 7, 2) := by decide +kernel
theorem dX11_line_320 : decode cX11_line 320 = .ok (.ishl, 1) := by decide +kernel
theorem dX11_line_321 : decode cX11_line 321 = .ok (.ior, 1) := by decide +kernel
theorem dX11_line_322 : decode cX11_line 322 = .ok (.istore 4, 2) := by decide +kernel
theorem dX11_line_324 : decode cX11_line 324 = .ok (.iload 7, 2) := by decide +kernel
theorem dX11_line_326 : decode cX11_line 326 = .ok (.istore 5, 2) := by decide +kernel
theorem dX11_line_328 : decode cX11_line 328 = .ok (.iinc 6 1, 3) := by decide +kernel
theorem dX11_line_331 : decode cX11_line 331 = .ok (.goto (-99), 3) := by decide +kernel
theorem dX11_line_334 : decode cX11_line 334 = .ok (.iconst 0, 1) := by decide +kernel
theorem dX11_line_335 : decode cX11_line 335 = .ok (.istore 6, 2) := by decide +kernel
theorem dX11_line_337 : decode cX11_line 337 = .ok (.iload 6, 2) := by decide +kernel
theorem dX11_line_339 : decode cX11_line 339 = .ok (.aload_n 0, 1) := by decide +kernel
theorem dX11_line_340 : decode cX11_line 340 = .ok (.getfield 151, 3) := by decide +kernel
theorem dX11_line_343 : decode cX11_line 343 = .ok (.if_icmp .ge 63, 3) := by decide +kernel
theorem dX11_line_346 : decode cX11_line 346 = .ok (.iconst 0, 1) := by decide +kernel
theorem dX11_line_347 : decode cX11_line 347 = .ok (.istore 7, 2) := by decide +kernel
theorem dX11_line_349 : decode cX11_line 349 = .ok (.iload 7, 2) := by decide +kernel
theorem dX11_line_351 : decode cX11_line 351 = .ok (.bipush 6, 2) := by decide +kernel
theorem dX11_line_353 : decode cX11_line 353 = .ok (.if_icmp .ge 31, 3) := by decide +kernel
theorem dX11_line_356 : decode cX11_line 356 = .ok (.aload_n 0, 1) := by decide +kernel
theorem dX11_line_357 : decode cX11_line 357 = .ok (.getfield 43, 3) := by decide +kernel
theorem dX11_line_360 : decode cX11_line 360 = .ok (.iload 6, 2) := by decide +kernel
theorem dX11_line_362 : decode cX11_line 362 = .ok (.aaload, 1) := by decide +kernel
theorem dX11_line_363 : decode cX11_line 363 = .ok (.iload 7, 2) := by decide +kernel
theorem dX11_line_365 : decode cX11_line 365 = .ok (.aload_n 0, 1) := by decide +kernel
theorem dX11_line_366 : decode cX11_line 366 = .ok (.getfield 49, 3) := by decide +kernel
theorem dX11_line_369 : decode cX11_line 369 = .ok (.aload_n 3, 1) := by decide +kernel
theorem dX11_line_370 : decode cX11_line 370 = .ok (.iload 6, 2) := by decide +kernel
theorem dX11_line_372 : decode cX11_line 372 = .ok (.iaload, 1) := by decide +kernel
theorem dX11_line_373 : decode cX11_line 373 = .ok (.aaload, 1) := by decide +kernel
theorem dX11_line_374 : decode cX11_line 374 = .ok (.iload 7, 2) := by decide +kernel
theorem dX11_line_376 : decode cX11_line 376 = .ok (.iaload, 1) := by decide +kernel
theorem dX11_line_377 : decode cX11_line 377 = .ok (.iastore, 1) := by decide +kernel
theorem dX11_line_378 : decode cX11_line 378 = .ok (.iinc 7 1, 3) := by decide +kernel
theorem dX11_line_381 : decode cX11_line 381 = .ok (.goto (-32), 3) := by decide +kernel
theorem dX11_line_384 : decode cX11_line 384 = .ok (.aload_n 0, 1) := by decide +kernel
theorem dX11_line_385 : decode cX11_line 385 = .ok (.getfield 46, 3) := by decide +kernel
theorem dX11_line_388 : decode cX11_line 388 = .ok (.iload 6, 2) := by decide +kernel
theorem dX11_line_390 : decode cX11_line 390 = .ok (.aload_n 0, 1) := by decide +kernel
theorem dX11_line_391 : decode cX11_line 391 = .ok (.getfield 52, 3) := by decide +kernel
theorem dX11_line_394 : decode cX11_line 394 = .ok (.aload_n 3, 1) := by decide +kernel
theorem dX11_line_395 : decode cX11_line 395 = .ok (.iload 6, 2) := by decide +kernel
theorem dX11_line_397 : decode cX11_line 397 = .ok (.iaload, 1) := by decide +kernel
theorem dX11_line_398 : decode cX11_line 398 = .ok (.iaload, 1) := by decide +kernel
theorem dX11_line_399 : decode cX11_line 399 = .ok (.iastore, 1) := by decide +kernel
theorem dX11_line_400 : decode cX11_line 400 = .ok (.iinc 6 1, 3) := by decide +kernel
theorem dX11_line_403 : decode cX11_line 403 = .ok (.goto (-66), 3) := by decide +kernel
theorem dX11_line_406 : decode cX11_line 406 = .ok (.iload_n 2, 1) := by decide +kernel
theorem dX11_line_407 : decode cX11_line 407 = .ok (.ireturn, 1) := by decide +kernel
set_option maxRecDepth 20000 in
theorem ggX11_slotted_X11_isSlot : GoodIn wsX11_slotted wsX11_isSlot := goodIn_r _ [9, 10, 11, 12, 8, 13, 44, 45, 46, 47, 48, 49, 50, 51, 52, 53, 54, 55, 56, 57, 58, 59, 60, 61, 62, 63, 64, 65, 66, 67, 68, 69, 70, 71, 72, 73, 74, 75, 76, 77, 78, 79, 80, 81, 82, 83, 84, 85] (by decide +kernel) (by decide +kernel)
set_option maxRecDepth 20000 in
theorem gX11_slotted_X11_isSlot : GoodIn wsX11_slotted (wsV RX11 224 RX11 yX11_isSlot wsX11_isSlot) := goodIn_app (goodIn_of _ (by decide +kernel)) ggX11_slotted_X11_isSlot
set_option maxRecDepth 20000 in
theorem ggX11_slotted_X11_isWidth : GoodIn wsX11_slotted wsX11_isWidth := goodIn_r _ [17, 18, 11, 12, 8, 13, 44, 45, 46, 47, 48, 49, 50, 51, 52, 53, 54, 55, 56, 57, 58, 59, 60, 61, 62, 63, 64, 65, 66, 67, 68, 69, 70, 71, 72, 73, 74, 75, 76, 77, 78, 79, 80, 81, 82, 83, 84, 85] (by decide +kernel) (by decide +kernel)
set_option maxRecDepth 20000 in
theorem gX11_slotted_X11_isWidth : GoodIn wsX11_slotted (wsV RX11 157 RX11 yX11_isWidth wsX11_isWidth) := goodIn_app (goodIn_of _ (by decide +kernel)) ggX11_slotted_X11_isWidth
set_option maxRecDepth 20000 in
theorem ggX11_slotted_X11_sumOf : GoodIn wsX11_slotted wsX11_sumOf := goodIn_r _ [22, 18, 23, 44, 45, 46, 47, 48, 49, 50, 51, 52, 53, 54, 55, 56, 57, 58, 59, 60, 61, 62, 63, 64, 65, 66, 67, 68, 69, 70, 71, 72, 73, 74, 75, 76, 77, 78, 79, 80, 81, 82, 83, 84, 85] (by decide +kernel) (by decide +kernel)
set_option maxRecDepth 20000 in
theorem gX11_slotted_X11_sumOf : GoodIn wsX11_slotted (wsV RX11 173 RX11 yX11_sumOf wsX11_sumOf) := goodIn_app (goodIn_of _ (by decide +kernel)) ggX11_slotted_X11_sumOf
set_option maxRecDepth 20000 in
theorem ggX11_slotted_X11_moves : GoodIn wsX11_slotted wsX11_moves := goodIn_r _ [27, 2, 28, 29, 30, 31, 32, 33, 34, 8, 35, 36, 18, 23, 37, 38, 39, 44, 45, 46, 47, 48, 49, 50, 51, 52, 53, 54, 55, 56, 57, 58, 59, 60, 61, 62, 63, 64, 65, 66, 67, 68, 69, 70, 71, 72, 73, 74, 75, 76, 77, 78, 79, 80, 81, 82, 83, 84, 85] (by decide +kernel) (by decide +kernel)
set_option maxRecDepth 20000 in
theorem gX11_slotted_X11_moves : GoodIn wsX11_slotted (wsV RX11 242 RX11 yX11_moves wsX11_moves) := goodIn_app (goodIn_of _ (by decide +kernel)) ggX11_slotted_X11_moves
set_option maxRecDepth 20000 in
theorem ggX11_slotted_X11_piecesOf : GoodIn wsX11_slotted wsX11_piecesOf := goodIn_r _ [43, 18, 44, 45, 46, 47, 48, 49, 50, 51, 52, 53, 54, 55, 56, 57, 58, 59, 60, 61, 62, 63, 64, 65, 66, 67, 68, 69, 70, 71, 72, 73, 74, 75, 76, 77, 78, 79, 80, 81, 82, 83, 84, 85] (by decide +kernel) (by decide +kernel)
set_option maxRecDepth 20000 in
theorem gX11_slotted_X11_piecesOf : GoodIn wsX11_slotted (wsV RX11 245 RX11 yX11_piecesOf wsX11_piecesOf) := goodIn_app (goodIn_of _ (by decide +kernel)) ggX11_slotted_X11_piecesOf
theorem dX11_slotted_0 : decode cX11_slotted 0 = .ok (.aload_n 0, 1) := by decide +kernel
theorem dX11_slotted_1 : decode cX11_slotted 1 = .ok (.iconst 0, 1) := by decide +kernel
theorem dX11_slotted_2 : decode cX11_slotted 2 = .ok (.putfield 99, 3) := by decide +kernel
theorem dX11_slotted_5 : decode cX11_slotted 5 = .ok (.aload_n 0, 1) := by decide +kernel
theorem dX11_slotted_6 : decode cX11_slotted 6 = .ok (.iload_n 1, 1) := by decide +kernel
theorem dX11_slotted_7 : decode cX11_slotted 7 = .ok (.invokevirtual 224, 3) := by decide +kernel
theorem dX11_slotted_10 : decode cX11_slotted 10 = .ok (.ifCond .ne 5, 3) := by decide +kernel
theorem dX11_slotted_13 : decode cX11_slotted 13 = .ok (.iconst (-1), 1) := by decide +kernel
theorem dX11_slotted_14 : decode cX11_slotted 14 = .ok (.ireturn, 1) := by decide +kernel
theorem dX11_slotted_15 : decode cX11_slotted 15 = .ok (.aload_n 0, 1) := by decide +kernel
theorem dX11_slotted_16 : decode cX11_slotted 16 = .ok (.iload_n 2, 1) := by decide +kernel
theorem dX11_slotted_17 : decode cX11_slotted 17 = .ok (.bipush 10, 2) := by decide +kernel
theorem dX11_slotted_19 : decode cX11_slotted 19 = .ok (.isub, 1) := by decide +kernel
theorem dX11_slotted_20 : decode cX11_slotted 20 = .ok (.invokevirtual 157, 3) := by decide +kernel
theorem dX11_slotted_23 : decode cX11_slotted 23 = .ok (.ifCond .eq 15, 3) := by decide +kernel
theorem dX11_slotted_26 : decode cX11_slotted 26 = .ok (.aload_n 0, 1) := by decide +kernel
theorem dX11_slotted_27 : decode cX11_slotted 27 = .ok (.getfield 43, 3) := by decide +kernel
theorem dX11_slotted_30 : decode cX11_slotted 30 = .ok (.iload_n 1, 1) := by decide +kernel
theorem dX11_slotted_31 : decode cX11_slotted 31 = .ok (.aaload, 1) := by decide +kernel
theorem dX11_slotted_32 : decode cX11_slotted 32 = .ok (.iload_n 2, 1) := by decide +kernel
theorem dX11_slotted_33 : decode cX11_slotted 33 = .ok (.bipush 10, 2) := by decide +kernel
theorem dX11_slotted_35 : decode cX11_slotted 35 = .ok (.isub, 1) := by decide +kernel
theorem dX11_slotted_36 : decode cX11_slotted 36 = .ok (.iaload, 1) := by decide +kernel
theorem dX11_slotted_37 : decode cX11_slotted 37 = .ok (.ireturn, 1) := by decide +kernel
theorem dX11_slotted_38 : decode cX11_slotted 38 = .ok (.iload_n 2, 1) := by decide +kernel
theorem dX11_slotted_39 : decode cX11_slotted 39 = .ok (.tableswitch 72 0 3 #[29, 36, 52, 61], 29) := by decide +kernel
theorem dX11_slotted_68 : decode cX11_slotted 68 = .ok (.aload_n 0, 1) := by decide +kernel
theorem dX11_slotted_69 : decode cX11_slotted 69 = .ok (.getfield 46, 3) := by decide +kernel
theorem dX11_slotted_72 : decode cX11_slotted 72 = .ok (.iload_n 1, 1) := by decide +kernel
theorem dX11_slotted_73 : decode cX11_slotted 73 = .ok (.iaload, 1) := by decide +kernel
theorem dX11_slotted_74 : decode cX11_slotted 74 = .ok (.ireturn, 1) := by decide +kernel
theorem dX11_slotted_75 : decode cX11_slotted 75 = .ok (.aload_n 0, 1) := by decide +kernel
theorem dX11_slotted_76 : decode cX11_slotted 76 = .ok (.getfield 7, 3) := by decide +kernel
theorem dX11_slotted_79 : decode cX11_slotted 79 = .ok (.aload_n 0, 1) := by decide +kernel
theorem dX11_slotted_80 : decode cX11_slotted 80 = .ok (.aload_n 0, 1) := by decide +kernel
theorem dX11_slotted_81 : decode cX11_slotted 81 = .ok (.getfield 43, 3) := by decide +kernel
theorem dX11_slotted_84 : decode cX11_slotted 84 = .ok (.iload_n 1, 1) := by decide +kernel
theorem dX11_slotted_85 : decode cX11_slotted 85 = .ok (.aaload, 1) := by decide +kernel
theorem dX11_slotted_86 : decode cX11_slotted 86 = .ok (.invokevirtual 173, 3) := by decide +kernel
theorem dX11_slotted_89 : decode cX11_slotted 89 = .ok (.isub, 1) := by decide +kernel
theorem dX11_slotted_90 : decode cX11_slotted 90 = .ok (.ireturn, 1) := by decide +kernel
theorem dX11_slotted_91 : decode cX11_slotted 91 = .ok (.aload_n 0, 1) := by decide +kernel
theorem dX11_slotted_92 : decode cX11_slotted 92 = .ok (.iload_n 1, 1) := by decide +kernel
theorem dX11_slotted_93 : decode cX11_slotted 93 = .ok (.iconst 1, 1) := by decide +kernel
theorem dX11_slotted_94 : decode cX11_slotted 94 = .ok (.isub, 1) := by decide +kernel
theorem dX11_slotted_95 : decode cX11_slotted 95 = .ok (.iload_n 1, 1) := by decide +kernel
theorem dX11_slotted_96 : decode cX11_slotted 96 = .ok (.invokevirtual 242, 3) := by decide +kernel
theorem dX11_slotted_99 : decode cX11_slotted 99 = .ok (.ireturn, 1) := by decide +kernel
theorem dX11_slotted_100 : decode cX11_slotted 100 = .ok (.aload_n 0, 1) := by decide +kernel
theorem dX11_slotted_101 : decode cX11_slotted 101 = .ok (.aload_n 0, 1) := by decide +kernel
theorem dX11_slotted_102 : decode cX11_slotted 102 = .ok (.getfield 43, 3) := by decide +kernel
theorem dX11_slotted_105 : decode cX11_slotted 105 = .ok (.iload_n 1, 1) := by decide +kernel
theorem dX11_slotted_106 : decode cX11_slotted 106 = .ok (.aaload, 1) := by decide +kernel
theorem dX11_slotted_107 : decode cX11_slotted 107 = .ok (.invokevirtual 245, 3) := by decide +kernel
theorem dX11_slotted_110 : decode cX11_slotted 110 = .ok (.ireturn, 1) := by decide +kernel
theorem dX11_slotted_111 : decode cX11_slotted 111 = .ok (.iconst (-1), 1) := by decide +kernel
theorem dX11_slotted_112 : decode cX11_slotted 112 = .ok (.ireturn, 1) := by decide +kernel
set_option maxRecDepth 20000 in
theorem ggX11_plan_X11_sumOf : GoodIn wsX11_plan wsX11_sumOf := goodIn_r _ [15, 6, 16, 43, 44, 45, 46, 47, 48, 49, 50, 51, 52, 53, 54, 55, 56, 57, 58, 59, 60, 61, 62, 63, 64, 65, 66, 67, 68, 69, 70, 71, 72, 73, 74, 75, 76, 77, 78, 79, 80, 81, 82, 83, 84] (by decide +kernel) (by decide +kernel)
set_option maxRecDepth 20000 in
theorem gX11_plan_X11_sumOf : GoodIn wsX11_plan (wsV RX11 173 RX11 yX11_sumOf wsX11_sumOf) := goodIn_app (goodIn_of _ (by decide +kernel)) ggX11_plan_X11_sumOf
set_option maxRecDepth 20000 in
theorem ggX11_plan_X11_moves : GoodIn wsX11_plan wsX11_moves := goodIn_r _ [20, 5, 21, 22, 23, 24, 25, 26, 27, 14, 28, 29, 6, 16, 30, 31, 32, 43, 44, 45, 46, 47, 48, 49, 50, 51, 52, 53, 54, 55, 56, 57, 58, 59, 60, 61, 62, 63, 64, 65, 66, 67, 68, 69, 70, 71, 72, 73, 74, 75, 76, 77, 78, 79, 80, 81, 82, 83, 84] (by decide +kernel) (by decide +kernel)
set_option maxRecDepth 20000 in
theorem gX11_plan_X11_moves : GoodIn wsX11_plan (wsV RX11 242 RX11 yX11_moves wsX11_moves) := goodIn_app (goodIn_of _ (by decide +kernel)) ggX11_plan_X11_moves
set_option maxRecDepth 20000 in
theorem ggX11_plan_X11_wanted : GoodIn wsX11_plan wsX11_wanted := goodIn_r _ [36, 37, 38, 7, 8, 9, 10, 43, 44, 45, 46, 47, 48, 49, 50, 51, 52, 53, 54, 55, 56, 57, 58, 59, 60, 61, 62, 63, 64, 65, 66, 67, 68, 69, 70, 71, 72, 73, 74, 75, 76, 77, 78, 79, 80, 81, 82, 83, 84] (by decide +kernel) (by decide +kernel)
set_option maxRecDepth 20000 in
theorem gX11_plan_X11_wanted : GoodIn wsX11_plan (wsV RX11 161 RX11 yX11_wanted wsX11_wanted) := goodIn_app (goodIn_of _ (by decide +kernel)) ggX11_plan_X11_wanted
set_option maxRecDepth 20000 in
theorem ggX11_plan_X11_planned : GoodIn wsX11_plan wsX11_planned := goodIn_r _ [42, 2, 5, 3, 43, 44, 45, 46, 47, 48, 49, 50, 51, 52, 53, 54, 55, 56, 57, 58, 59, 60, 61, 62, 63, 64, 65, 66, 67, 68, 69, 70, 71, 72, 73, 74, 75, 76, 77, 78, 79, 80, 81, 82, 83, 84] (by decide +kernel) (by decide +kernel)
set_option maxRecDepth 20000 in
theorem gX11_plan_X11_planned : GoodIn wsX11_plan (wsV RX11 165 RX11 yX11_planned wsX11_planned) := goodIn_app (goodIn_of _ (by decide +kernel)) ggX11_plan_X11_planned
theorem dX11_plan_0 : decode cX11_plan 0 = .ok (.aload_n 0, 1) := by decide +kernel
theorem dX11_plan_1 : decode cX11_plan 1 = .ok (.iconst 0, 1) := by decide +kernel
theorem dX11_plan_2 : decode cX11_plan 2 = .ok (.putfield 99, 3) := by decide +kernel
theorem dX11_plan_5 : decode cX11_plan 5 = .ok (.iconst 0, 1) := by decide +kernel
theorem dX11_plan_6 : decode cX11_plan 6 = .ok (.istore_n 2, 1) := by decide +kernel
theorem dX11_plan_7 : decode cX11_plan 7 = .ok (.iload_n 1, 1) := by decide +kernel
theorem dX11_plan_8 : decode cX11_plan 8 = .ok (.tableswitch 216 0 5 #[40, 45, 72, 115, 144, 180], 40) := by decide +kernel
theorem dX11_plan_48 : decode cX11_plan 48 = .ok (.aload_n 0, 1) := by decide +kernel
theorem dX11_plan_49 : decode cX11_plan 49 = .ok (.getfield 151, 3) := by decide +kernel
theorem dX11_plan_52 : decode cX11_plan 52 = .ok (.ireturn, 1) := by decide +kernel
theorem dX11_plan_53 : decode cX11_plan 53 = .ok (.iconst 0, 1) := by decide +kernel
theorem dX11_plan_54 : decode cX11_plan 54 = .ok (.istore_n 3, 1) := by decide +kernel
theorem dX11_plan_55 : decode cX11_plan 55 = .ok (.iload_n 3, 1) := by decide +kernel
theorem dX11_plan_56 : decode cX11_plan 56 = .ok (.aload_n 0, 1) := by decide +kernel
theorem dX11_plan_57 : decode cX11_plan 57 = .ok (.getfield 151, 3) := by decide +kernel
theorem dX11_plan_60 : decode cX11_plan 60 = .ok (.if_icmp .ge 18, 3) := by decide +kernel
theorem dX11_plan_63 : decode cX11_plan 63 = .ok (.iload_n 2, 1) := by decide +kernel
theorem dX11_plan_64 : decode cX11_plan 64 = .ok (.aload_n 0, 1) := by decide +kernel
theorem dX11_plan_65 : decode cX11_plan 65 = .ok (.getfield 46, 3) := by decide +kernel
theorem dX11_plan_68 : decode cX11_plan 68 = .ok (.iload_n 3, 1) := by decide +kernel
theorem dX11_plan_69 : decode cX11_plan 69 = .ok (.iaload, 1) := by decide +kernel
theorem dX11_plan_70 : decode cX11_plan 70 = .ok (.iadd, 1) := by decide +kernel
theorem dX11_plan_71 : decode cX11_plan 71 = .ok (.istore_n 2, 1) := by decide +kernel
theorem dX11_plan_72 : decode cX11_plan 72 = .ok (.iinc 3 1, 3) := by decide +kernel
theorem dX11_plan_75 : decode cX11_plan 75 = .ok (.goto (-20), 3) := by decide +kernel
theorem dX11_plan_78 : decode cX11_plan 78 = .ok (.iload_n 2, 1) := by decide +kernel
theorem dX11_plan_79 : decode cX11_plan 79 = .ok (.ireturn, 1) := by decide +kernel
theorem dX11_plan_80 : decode cX11_plan 80 = .ok (.iconst 0, 1) := by decide +kernel
theorem dX11_plan_81 : decode cX11_plan 81 = .ok (.istore_n 3, 1) := by decide +kernel
theorem dX11_plan_82 : decode cX11_plan 82 = .ok (.iload_n 3, 1) := by decide +kernel
theorem dX11_plan_83 : decode cX11_plan 83 = .ok (.aload_n 0, 1) := by decide +kernel
theorem dX11_plan_84 : decode cX11_plan 84 = .ok (.getfield 151, 3) := by decide +kernel
theorem dX11_plan_87 : decode cX11_plan 87 = .ok (.if_icmp .ge 34, 3) := by decide +kernel
theorem dX11_plan_90 : decode cX11_plan 90 = .ok (.iload_n 2, 1) := by decide +kernel
theorem dX11_plan_91 : decode cX11_plan 91 = .ok (.aload_n 0, 1) := by decide +kernel
theorem dX11_plan_92 : decode cX11_plan 92 = .ok (.getfield 46, 3) := by decide +kernel
theorem dX11_plan_95 : decode cX11_plan 95 = .ok (.iload_n 3, 1) := by decide +kernel
theorem dX11_plan_96 : decode cX11_plan 96 = .ok (.iaload, 1) := by decide +kernel
theorem dX11_plan_97 : decode cX11_plan 97 = .ok (.aload_n 0, 1) := by decide +kernel
theorem dX11_plan_98 : decode cX11_plan 98 = .ok (.getfield 7, 3) := by decide +kernel
theorem dX11_plan_101 : decode cX11_plan 101 = .ok (.aload_n 0, 1) := by decide +kernel
theorem dX11_plan_102 : decode cX11_plan 102 = .ok (.aload_n 0, 1) := by decide +kernel
theorem dX11_plan_103 : decode cX11_plan 103 = .ok (.getfield 43, 3) := by decide +kernel
theorem dX11_plan_106 : decode cX11_plan 106 = .ok (.iload_n 3, 1) := by decide +kernel
theorem dX11_plan_107 : decode cX11_plan 107 = .ok (.aaload, 1) := by decide +kernel
theorem dX11_plan_108 : decode cX11_plan 108 = .ok (.invokevirtual 173, 3) := by decide +kernel
theorem dX11_plan_111 : decode cX11_plan 111 = .ok (.isub, 1) := by decide +kernel
theorem dX11_plan_112 : decode cX11_plan 112 = .ok (.imul, 1) := by decide +kernel
theorem dX11_plan_113 : decode cX11_plan 113 = .ok (.iadd, 1) := by decide +kernel
theorem dX11_plan_114 : decode cX11_plan 114 = .ok (.istore_n 2, 1) := by decide +kernel
theorem dX11_plan_115 : decode cX11_plan 115 = .ok (.iinc 3 1, 3) := by decide +kernel
theorem dX11_plan_118 : decode cX11_plan 118 = .ok (.goto (-36), 3) := by decide +kernel
theorem dX11_plan_121 : decode cX11_plan 121 = .ok (.iload_n 2, 1) := by decide +kernel
theorem dX11_plan_122 : decode cX11_plan 122 = .ok (.ireturn, 1) := by decide +kernel
theorem dX11_plan_123 : decode cX11_plan 123 = .ok (.iconst 0, 1) := by decide +kernel
theorem dX11_plan_124 : decode cX11_plan 124 = .ok (.istore_n 3, 1) := by decide +kernel
theorem dX11_plan_125 : decode cX11_plan 125 = .ok (.iload_n 3, 1) := by decide +kernel
theorem dX11_plan_126 : decode cX11_plan 126 = .ok (.aload_n 0, 1) := by decide +kernel
theorem dX11_plan_127 : decode cX11_plan 127 = .ok (.getfield 151, 3) := by decide +kernel
theorem dX11_plan_130 : decode cX11_plan 130 = .ok (.if_icmp .ge 20, 3) := by decide +kernel
theorem dX11_plan_133 : decode cX11_plan 133 = .ok (.iload_n 2, 1) := by decide +kernel
theorem dX11_plan_134 : decode cX11_plan 134 = .ok (.aload_n 0, 1) := by decide +kernel
theorem dX11_plan_135 : decode cX11_plan 135 = .ok (.iload_n 3, 1) := by decide +kernel
theorem dX11_plan_136 : decode cX11_plan 136 = .ok (.iconst 1, 1) := by decide +kernel
theorem dX11_plan_137 : decode cX11_plan 137 = .ok (.isub, 1) := by decide +kernel
theorem dX11_plan_138 : decode cX11_plan 138 = .ok (.iload_n 3, 1) := by decide +kernel
theorem dX11_plan_139 : decode cX11_plan 139 = .ok (.invokevirtual 242, 3) := by decide +kernel
theorem dX11_plan_142 : decode cX11_plan 142 = .ok (.iadd, 1) := by decide +kernel
theorem dX11_plan_143 : decode cX11_plan 143 = .ok (.istore_n 2, 1) := by decide +kernel
theorem dX11_plan_144 : decode cX11_plan 144 = .ok (.iinc 3 1, 3) := by decide +kernel
theorem dX11_plan_147 : decode cX11_plan 147 = .ok (.goto (-22), 3) := by decide +kernel
theorem dX11_plan_150 : decode cX11_plan 150 = .ok (.iload_n 2, 1) := by decide +kernel
theorem dX11_plan_151 : decode cX11_plan 151 = .ok (.ireturn, 1) := by decide +kernel
theorem dX11_plan_152 : decode cX11_plan 152 = .ok (.iconst 0, 1) := by decide +kernel
theorem dX11_plan_153 : decode cX11_plan 153 = .ok (.istore_n 3, 1) := by decide +kernel
theorem dX11_plan_154 : decode cX11_plan 154 = .ok (.iload_n 3, 1) := by decide +kernel
theorem dX11_plan_155 : decode cX11_plan 155 = .ok (.aload_n 0, 1) := by decide +kernel
theorem dX11_plan_156 : decode cX11_plan 156 = .ok (.getfield 122, 3) := by decide +kernel
theorem dX11_plan_159 : decode cX11_plan 159 = .ok (.if_icmp .ge 27, 3) := by decide +kernel
theorem dX11_plan_162 : decode cX11_plan 162 = .ok (.iload_n 2, 1) := by decide +kernel
theorem dX11_plan_163 : decode cX11_plan 163 = .ok (.iconst 0, 1) := by decide +kernel
theorem dX11_plan_164 : decode cX11_plan 164 = .ok (.aload_n 0, 1) := by decide +kernel
theorem dX11_plan_165 : decode cX11_plan 165 = .ok (.iload_n 3, 1) := by decide +kernel
theorem dX11_plan_166 : decode cX11_plan 166 = .ok (.invokevirtual 161, 3) := by decide +kernel
theorem dX11_plan_169 : decode cX11_plan 169 = .ok (.aload_n 0, 1) := by decide +kernel
theorem dX11_plan_170 : decode cX11_plan 170 = .ok (.iload_n 3, 1) := by decide +kernel
theorem dX11_plan_171 : decode cX11_plan 171 = .ok (.invokevirtual 165, 3) := by decide +kernel
theorem dX11_plan_174 : decode cX11_plan 174 = .ok (.isub, 1) := by decide +kernel
theorem dX11_plan_175 : decode cX11_plan 175 = .ok (.invokestatic 102, 3) := by decide +kernel
theorem dX11_plan_178 : decode cX11_plan 178 = .ok (.iadd, 1) := by decide +kernel
theorem dX11_plan_179 : decode cX11_plan 179 = .ok (.istore_n 2, 1) := by decide +kernel
theorem dX11_plan_180 : decode cX11_plan 180 = .ok (.iinc 3 1, 3) := by decide +kernel
theorem dX11_plan_183 : decode cX11_plan 183 = .ok (.goto (-29), 3) := by decide +kernel
theorem dX11_plan_186 : decode cX11_plan 186 = .ok (.iload_n 2, 1) := by decide +kernel
theorem dX11_plan_187 : decode cX11_plan 187 = .ok (.ireturn, 1) := by decide +kernel
theorem dX11_plan_188 : decode cX11_plan 188 = .ok (.iconst 0, 1) := by decide +kernel
theorem dX11_plan_189 : decode cX11_plan 189 = .ok (.istore_n 3, 1) := by decide +kernel
theorem dX11_plan_190 : decode cX11_plan 190 = .ok (.iload_n 3, 1) := by decide +kernel
theorem dX11_plan_191 : decode cX11_plan 191 = .ok (.aload_n 0, 1) := by decide +kernel
theorem dX11_plan_192 : decode cX11_plan 192 = .ok (.getfield 122, 3) := by decide +kernel
theorem dX11_plan_195 : decode cX11_plan 195 = .ok (.if_icmp .ge 27, 3) := by decide +kernel
theorem dX11_plan_198 : decode cX11_plan 198 = .ok (.iload_n 2, 1) := by decide +kernel
theorem dX11_plan_199 : decode cX11_plan 199 = .ok (.iconst 0, 1) := by decide +kernel
theorem dX11_plan_200 : decode cX11_plan 200 = .ok (.aload_n 0, 1) := by decide +kernel
theorem dX11_plan_201 : decode cX11_plan 201 = .ok (.iload_n 3, 1) := by decide +kernel
theorem dX11_plan_202 : decode cX11_plan 202 = .ok (.invokevirtual 165, 3) := by decide +kernel
theorem dX11_plan_205 : decode cX11_plan 205 = .ok (.aload_n 0, 1) := by decide +kernel
theorem dX11_plan_206 : decode cX11_plan 206 = .ok (.iload_n 3, 1) := by decide +kernel
theorem dX11_plan_207 : decode cX11_plan 207 = .ok (.invokevirtual 161, 3) := by decide +kernel
theorem dX11_plan_210 : decode cX11_plan 210 = .ok (.isub, 1) := by decide +kernel
theorem dX11_plan_211 : decode cX11_plan 211 = .ok (.invokestatic 102, 3) := by decide +kernel
theorem dX11_plan_214 : decode cX11_plan 214 = .ok (.iadd, 1) := by decide +kernel
theorem dX11_plan_215 : decode cX11_plan 215 = .ok (.istore_n 2, 1) := by decide +kernel
theorem dX11_plan_216 : decode cX11_plan 216 = .ok (.iinc 3 1, 3) := by decide +kernel
theorem dX11_plan_219 : decode cX11_plan 219 = .ok (.goto (-29), 3) := by decide +kernel
theorem dX11_plan_222 : decode cX11_plan 222 = .ok (.iload_n 2, 1) := by decide +kernel
theorem dX11_plan_223 : decode cX11_plan 223 = .ok (.ireturn, 1) := by decide +kernel
theorem dX11_plan_224 : decode cX11_plan 224 = .ok (.iconst (-1), 1) := by decide +kernel
theorem dX11_plan_225 : decode cX11_plan 225 = .ok (.ireturn, 1) := by decide +kernel
set_option maxRecDepth 20000 in
theorem ggX11_lot_X11_in : GoodIn wsX11_lot wsX11_in := goodIn_r _ [10] (by decide +kernel) (by decide +kernel)
set_option maxRecDepth 20000 in
theorem gX11_lot_X11_in : GoodIn wsX11_lot (va_wsS RX11 134 yX11_in wsX11_in) := goodIn_app (goodIn_of _ (by decide +kernel)) ggX11_lot_X11_in
theorem dX11_lot_0 : decode cX11_lot 0 = .ok (.aload_n 0, 1) := by decide +kernel
theorem dX11_lot_1 : decode cX11_lot 1 = .ok (.iconst 0, 1) := by decide +kernel
theorem dX11_lot_2 : decode cX11_lot 2 = .ok (.putfield 99, 3) := by decide +kernel
theorem dX11_lot_5 : decode cX11_lot 5 = .ok (.iload_n 1, 1) := by decide +kernel
theorem dX11_lot_6 : decode cX11_lot 6 = .ok (.iconst 1, 1) := by decide +kernel
theorem dX11_lot_7 : decode cX11_lot 7 = .ok (.ldc 248, 2) := by decide +kernel
theorem dX11_lot_9 : decode cX11_lot 9 = .ok (.invokestatic 134, 3) := by decide +kernel
theorem dX11_lot_12 : decode cX11_lot 12 = .ok (.ifCond .eq 23, 3) := by decide +kernel
theorem dX11_lot_15 : decode cX11_lot 15 = .ok (.iload_n 2, 1) := by decide +kernel
theorem dX11_lot_16 : decode cX11_lot 16 = .ok (.iconst 0, 1) := by decide +kernel
theorem dX11_lot_17 : decode cX11_lot 17 = .ok (.sipush 1000, 3) := by decide +kernel
theorem dX11_lot_20 : decode cX11_lot 20 = .ok (.invokestatic 134, 3) := by decide +kernel
theorem dX11_lot_23 : decode cX11_lot 23 = .ok (.ifCond .eq 12, 3) := by decide +kernel
theorem dX11_lot_26 : decode cX11_lot 26 = .ok (.aload_n 0, 1) := by decide +kernel
theorem dX11_lot_27 : decode cX11_lot 27 = .ok (.getfield 249, 3) := by decide +kernel
theorem dX11_lot_30 : decode cX11_lot 30 = .ok (.bipush 8, 2) := by decide +kernel
theorem dX11_lot_32 : decode cX11_lot 32 = .ok (.if_icmp .ne 5, 3) := by decide +kernel
theorem dX11_lot_35 : decode cX11_lot 35 = .ok (.iconst (-1), 1) := by decide +kernel
theorem dX11_lot_36 : decode cX11_lot 36 = .ok (.ireturn, 1) := by decide +kernel
theorem dX11_lot_37 : decode cX11_lot 37 = .ok (.aload_n 0, 1) := by decide +kernel
theorem dX11_lot_38 : decode cX11_lot 38 = .ok (.getfield 85, 3) := by decide +kernel
theorem dX11_lot_41 : decode cX11_lot 41 = .ok (.aload_n 0, 1) := by decide +kernel
theorem dX11_lot_42 : decode cX11_lot 42 = .ok (.getfield 249, 3) := by decide +kernel
theorem dX11_lot_45 : decode cX11_lot 45 = .ok (.iload_n 1, 1) := by decide +kernel
theorem dX11_lot_46 : decode cX11_lot 46 = .ok (.iastore, 1) := by decide +kernel
theorem dX11_lot_47 : decode cX11_lot 47 = .ok (.aload_n 0, 1) := by decide +kernel
theorem dX11_lot_48 : decode cX11_lot 48 = .ok (.getfield 88, 3) := by decide +kernel
theorem dX11_lot_51 : decode cX11_lot 51 = .ok (.aload_n 0, 1) := by decide +kernel
theorem dX11_lot_52 : decode cX11_lot 52 = .ok (.getfield 249, 3) := by decide +kernel
theorem dX11_lot_55 : decode cX11_lot 55 = .ok (.iload_n 2, 1) := by decide +kernel
theorem dX11_lot_56 : decode cX11_lot 56 = .ok (.iastore, 1) := by decide +kernel
theorem dX11_lot_57 : decode cX11_lot 57 = .ok (.aload_n 0, 1) := by decide +kernel
theorem dX11_lot_58 : decode cX11_lot 58 = .ok (.getfield 91, 3) := by decide +kernel
theorem dX11_lot_61 : decode cX11_lot 61 = .ok (.aload_n 0, 1) := by decide +kernel
theorem dX11_lot_62 : decode cX11_lot 62 = .ok (.getfield 249, 3) := by decide +kernel
theorem dX11_lot_65 : decode cX11_lot 65 = .ok (.iload_n 3, 1) := by decide +kernel
theorem dX11_lot_66 : decode cX11_lot 66 = .ok (.bastore, 1) := by decide +kernel
theorem dX11_lot_67 : decode cX11_lot 67 = .ok (.aload_n 0, 1) := by decide +kernel
theorem dX11_lot_68 : decode cX11_lot 68 = .ok (.dup, 1) := by decide +kernel
theorem dX11_lot_69 : decode cX11_lot 69 = .ok (.getfield 249, 3) := by decide +kernel
theorem dX11_lot_72 : decode cX11_lot 72 = .ok (.iconst 1, 1) := by decide +kernel
theorem dX11_lot_73 : decode cX11_lot 73 = .ok (.iadd, 1) := by decide +kernel
theorem dX11_lot_74 : decode cX11_lot 74 = .ok (.putfield 249, 3) := by decide +kernel
theorem dX11_lot_77 : decode cX11_lot 77 = .ok (.aload_n 0, 1) := by decide +kernel
theorem dX11_lot_78 : decode cX11_lot 78 = .ok (.getfield 249, 3) := by decide +kernel
theorem dX11_lot_81 : decode cX11_lot 81 = .ok (.iconst 1, 1) := by decide +kernel
theorem dX11_lot_82 : decode cX11_lot 82 = .ok (.isub, 1) := by decide +kernel
theorem dX11_lot_83 : decode cX11_lot 83 = .ok (.ireturn, 1) := by decide +kernel
set_option maxRecDepth 20000 in
theorem ggX11_lotted_X11_in : GoodIn wsX11_lotted wsX11_in := goodIn_r _ [9] (by decide +kernel) (by decide +kernel)
set_option maxRecDepth 20000 in
theorem gX11_lotted_X11_in : GoodIn wsX11_lotted (va_wsS RX11 134 yX11_in wsX11_in) := goodIn_app (goodIn_of _ (by decide +kernel)) ggX11_lotted_X11_in
theorem dX11_lotted_0 : decode cX11_lotted 0 = .ok (.aload_n 0, 1) := by decide +kernel
theorem dX11_lotted_1 : decode cX11_lotted 1 = .ok (.iconst 0, 1) := by decide +kernel
theorem dX11_lotted_2 : decode cX11_lotted 2 = .ok (.putfield 99, 3) := by decide +kernel
theorem dX11_lotted_5 : decode cX11_lotted 5 = .ok (.iload_n 1, 1) := by decide +kernel
theorem dX11_lotted_6 : decode cX11_lotted 6 = .ok (.iconst 0, 1) := by decide +kernel
theorem dX11_lotted_7 : decode cX11_lotted 7 = .ok (.aload_n 0, 1) := by decide +kernel
theorem dX11_lotted_8 : decode cX11_lotted 8 = .ok (.getfield 249, 3) := by decide +kernel
theorem dX11_lotted_11 : decode cX11_lotted 11 = .ok (.iconst 1, 1) := by decide +kernel
theorem dX11_lotted_12 : decode cX11_lotted 12 = .ok (.isub, 1) := by decide +kernel
theorem dX11_lotted_13 : decode cX11_lotted 13 = .ok (.invokestatic 134, 3) := by decide +kernel
theorem dX11_lotted_16 : decode cX11_lotted 16 = .ok (.ifCond .ne 5, 3) := by decide +kernel
theorem dX11_lotted_19 : decode cX11_lotted 19 = .ok (.iconst (-1), 1) := by decide +kernel
theorem dX11_lotted_20 : decode cX11_lotted 20 = .ok (.ireturn, 1) := by decide +kernel
theorem dX11_lotted_21 : decode cX11_lotted 21 = .ok (.iload_n 2, 1) := by decide +kernel
theorem dX11_lotted_22 : decode cX11_lotted 22 = .ok (.ifCond .ne 12, 3) := by decide +kernel
theorem dX11_lotted_25 : decode cX11_lotted 25 = .ok (.aload_n 0, 1) := by decide +kernel
theorem dX11_lotted_26 : decode cX11_lotted 26 = .ok (.getfield 85, 3) := by decide +kernel
theorem dX11_lotted_29 : decode cX11_lotted 29 = .ok (.iload_n 1, 1) := by decide +kernel
theorem dX11_lotted_30 : decode cX11_lotted 30 = .ok (.iaload, 1) := by decide +kernel
theorem dX11_lotted_31 : decode cX11_lotted 31 = .ok (.goto 40, 3) := by decide +kernel
theorem dX11_lotted_34 : decode cX11_lotted 34 = .ok (.iload_n 2, 1) := by decide +kernel
theorem dX11_lotted_35 : decode cX11_lotted 35 = .ok (.iconst 1, 1) := by decide +kernel
theorem dX11_lotted_36 : decode cX11_lotted 36 = .ok (.if_icmp .ne 12, 3) := by decide +kernel
theorem dX11_lotted_39 : decode cX11_lotted 39 = .ok (.aload_n 0, 1) := by decide +kernel
theorem dX11_lotted_40 : decode cX11_lotted 40 = .ok (.getfield 88, 3) := by decide +kernel
theorem dX11_lotted_43 : decode cX11_lotted 43 = .ok (.iload_n 1, 1) := by decide +kernel
theorem dX11_lotted_44 : decode cX11_lotted 44 = .ok (.iaload, 1) := by decide +kernel
theorem dX11_lotted_45 : decode cX11_lotted 45 = .ok (.goto 26, 3) := by decide +kernel
theorem dX11_lotted_48 : decode cX11_lotted 48 = .ok (.iload_n 2, 1) := by decide +kernel
theorem dX11_lotted_49 : decode cX11_lotted 49 = .ok (.iconst 2, 1) := by decide +kernel
theorem dX11_lotted_50 : decode cX11_lotted 50 = .ok (.if_icmp .ne 20, 3) := by decide +kernel
theorem dX11_lotted_53 : decode cX11_lotted 53 = .ok (.aload_n 0, 1) := by decide +kernel
theorem dX11_lotted_54 : decode cX11_lotted 54 = .ok (.getfield 91, 3) := by decide +kernel
theorem dX11_lotted_57 : decode cX11_lotted 57 = .ok (.iload_n 1, 1) := by decide +kernel
theorem dX11_lotted_58 : decode cX11_lotted 58 = .ok (.baload, 1) := by decide +kernel
theorem dX11_lotted_59 : decode cX11_lotted 59 = .ok (.ifCond .eq 7, 3) := by decide +kernel
theorem dX11_lotted_62 : decode cX11_lotted 62 = .ok (.iconst 1, 1) := by decide +kernel
theorem dX11_lotted_63 : decode cX11_lotted 63 = .ok (.goto 8, 3) := by decide +kernel
theorem dX11_lotted_66 : decode cX11_lotted 66 = .ok (.iconst 0, 1) := by decide +kernel
theorem dX11_lotted_67 : decode cX11_lotted 67 = .ok (.goto 4, 3) := by decide +kernel
theorem dX11_lotted_70 : decode cX11_lotted 70 = .ok (.iconst (-1), 1) := by decide +kernel
theorem dX11_lotted_71 : decode cX11_lotted 71 = .ok (.ireturn, 1) := by decide +kernel
set_option maxRecDepth 20000 in
theorem ggX11_cut_X11_isSlot : GoodIn wsX11_cut wsX11_isSlot := goodIn_r _ [19, 20, 21, 22, 18, 23, 64, 65, 66, 67, 68, 69, 70, 71, 72, 73, 74, 75, 76, 77, 78, 79, 80, 81, 82, 83, 84, 85, 86, 87, 88, 89, 90, 91, 92, 93, 94, 95, 96, 97, 98, 99, 100, 101, 102, 103, 104, 105] (by decide +kernel) (by decide +kernel)
set_option maxRecDepth 20000 in
theorem gX11_cut_X11_isSlot : GoodIn wsX11_cut (wsV RX11 224 RX11 yX11_isSlot wsX11_isSlot) := goodIn_app (goodIn_of _ (by decide +kernel)) ggX11_cut_X11_isSlot
set_option maxRecDepth 20000 in
theorem ggX11_cut_X11_in : GoodIn wsX11_cut wsX11_in := goodIn_r _ [23] (by decide +kernel) (by decide +kernel)
set_option maxRecDepth 20000 in
theorem gX11_cut_X11_in : GoodIn wsX11_cut (va_wsS RX11 134 yX11_in wsX11_in) := goodIn_app (goodIn_of _ (by decide +kernel)) ggX11_cut_X11_in
set_option maxRecDepth 20000 in
theorem ggX11_cut_X11_fitsFlawed : GoodIn wsX11_cut wsX11_fitsFlawed := goodIn_r _ [27, 28, 29, 11, 30, 31, 32, 33, 34, 35, 36, 37, 38, 39, 40, 18, 41, 8, 42, 64, 65, 66, 67, 68, 69, 70, 71, 72, 73, 74, 75, 76, 77, 78, 79, 80, 81, 82, 83, 84, 85, 86, 87, 88, 89, 90, 91, 92, 93, 94, 95, 96, 97, 98, 99, 100, 101, 102, 103, 104, 105] (by decide +kernel) (by decide +kernel)
set_option maxRecDepth 20000 in
theorem gX11_cut_X11_fitsFlawed : GoodIn wsX11_cut (wsV RX11 181 RX11 yX11_fitsFlawed wsX11_fitsFlawed) := goodIn_app (goodIn_of _ (by decide +kernel)) ggX11_cut_X11_fitsFlawed
set_option maxRecDepth 20000 in
theorem ggX11_cut_X11_sumOf : GoodIn wsX11_cut wsX11_sumOf := goodIn_r _ [46, 8, 42, 64, 65, 66, 67, 68, 69, 70, 71, 72, 73, 74, 75, 76, 77, 78, 79, 80, 81, 82, 83, 84, 85, 86, 87, 88, 89, 90, 91, 92, 93, 94, 95, 96, 97, 98, 99, 100, 101, 102, 103, 104, 105] (by decide +kernel) (by decide +kernel)
set_option maxRecDepth 20000 in
theorem gX11_cut_X11_sumOf : GoodIn wsX11_cut (wsV RX11 173 RX11 yX11_sumOf wsX11_sumOf) := goodIn_app (goodIn_of _ (by decide +kernel)) ggX11_cut_X11_sumOf
set_option maxRecDepth 20000 in
theorem ggX11_cut_X11_moves : GoodIn wsX11_cut wsX11_moves := goodIn_r _ [50, 5, 51, 12, 13, 52, 53, 54, 55, 18, 56, 30, 8, 42, 57, 58, 59, 64, 65, 66, 67, 68, 69, 70, 71, 72, 73, 74, 75, 76, 77, 78, 79, 80, 81, 82, 83, 84, 85, 86, 87, 88, 89, 90, 91, 92, 93, 94, 95, 96, 97, 98, 99, 100, 101, 102, 103, 104, 105] (by decide +kernel) (by decide +kernel)
set_option maxRecDepth 20000 in
theorem gX11_cut_X11_moves : GoodIn wsX11_cut (wsV RX11 242 RX11 yX11_moves wsX11_moves) := goodIn_app (goodIn_of _ (by decide +kernel)) ggX11_cut_X11_moves
set_option maxRecDepth 20000 in
theorem ggX11_cut_X11_cutsOf : GoodIn wsX11_cut wsX11_cutsOf := goodIn_r _ [56, 30, 8, 42, 64, 65, 66, 67, 68, 69, 70, 71, 72, 73, 74, 75, 76, 77, 78, 79, 80, 81, 82, 83, 84, 85, 86, 87, 88, 89, 90, 91, 92, 93, 94, 95, 96, 97, 98, 99, 100, 101, 102, 103, 104, 105] (by decide +kernel) (by decide +kernel)
set_option maxRecDepth 20000 in
theorem gX11_cut_X11_cutsOf : GoodIn wsX11_cut (wsV RX11 231 RX11 yX11_cutsOf wsX11_cutsOf) := goodIn_app (goodIn_of _ (by decide +kernel)) ggX11_cut_X11_cutsOf
set_option maxRecDepth 20000 in
theorem ggX11_cut_X11_goes : GoodIn wsX11_cut wsX11_goes := goodIn_r _ [63, 5, 20, 14, 64, 65, 66, 67, 68, 69, 70, 71, 72, 73, 74, 75, 76, 77, 78, 79, 80, 81, 82, 83, 84, 85, 86, 87, 88, 89, 90, 91, 92, 93, 94, 95, 96, 97, 98, 99, 100, 101, 102, 103, 104, 105] (by decide +kernel) (by decide +kernel)
set_option maxRecDepth 20000 in
theorem gX11_cut_X11_goes : GoodIn wsX11_cut (wsV RX11 227 RX11 yX11_goes wsX11_goes) := goodIn_app (goodIn_of _ (by decide +kernel)) ggX11_cut_X11_goes
theorem dX11_cut_0 : decode cX11_cut 0 = .ok (.aload_n 0, 1) := by decide +kernel
theorem dX11_cut_1 : decode cX11_cut 1 = .ok (.iconst 0, 1) := by decide +kernel
theorem dX11_cut_2 : decode cX11_cut 2 = .ok (.putfield 99, 3) := by decide +kernel
theorem dX11_cut_5 : decode cX11_cut 5 = .ok (.aload_n 0, 1) := by decide +kernel
theorem dX11_cut_6 : decode cX11_cut 6 = .ok (.iload_n 1, 1) := by decide +kernel
theorem dX11_cut_7 : decode cX11_cut 7 = .ok (.invokevirtual 224, 3) := by decide +kernel
theorem dX11_cut_10 : decode cX11_cut 10 = .ok (.ifCond .ne 5, 3) := by decide +kernel
theorem dX11_cut_13 : decode cX11_cut 13 = .ok (.iconst 1, 1) := by decide +kernel
theorem dX11_cut_14 : decode cX11_cut 14 = .ok (.ireturn, 1) := by decide +kernel
theorem dX11_cut_15 : decode cX11_cut 15 = .ok (.iload_n 2, 1) := by decide +kernel
theorem dX11_cut_16 : decode cX11_cut 16 = .ok (.iconst 0, 1) := by decide +kernel
theorem dX11_cut_17 : decode cX11_cut 17 = .ok (.aload_n 0, 1) := by decide +kernel
theorem dX11_cut_18 : decode cX11_cut 18 = .ok (.getfield 249, 3) := by decide +kernel
theorem dX11_cut_21 : decode cX11_cut 21 = .ok (.iconst 1, 1) := by decide +kernel
theorem dX11_cut_22 : decode cX11_cut 22 = .ok (.isub, 1) := by decide +kernel
theorem dX11_cut_23 : decode cX11_cut 23 = .ok (.invokestatic 134, 3) := by decide +kernel
theorem dX11_cut_26 : decode cX11_cut 26 = .ok (.ifCond .ne 5, 3) := by decide +kernel
theorem dX11_cut_29 : decode cX11_cut 29 = .ok (.iconst 2, 1) := by decide +kernel
theorem dX11_cut_30 : decode cX11_cut 30 = .ok (.ireturn, 1) := by decide +kernel
theorem dX11_cut_31 : decode cX11_cut 31 = .ok (.aload_n 0, 1) := by decide +kernel
theorem dX11_cut_32 : decode cX11_cut 32 = .ok (.getfield 88, 3) := by decide +kernel
theorem dX11_cut_35 : decode cX11_cut 35 = .ok (.iload_n 2, 1) := by decide +kernel
theorem dX11_cut_36 : decode cX11_cut 36 = .ok (.iaload, 1) := by decide +kernel
theorem dX11_cut_37 : decode cX11_cut 37 = .ok (.ifCond .ne 5, 3) := by decide +kernel
theorem dX11_cut_40 : decode cX11_cut 40 = .ok (.iconst 3, 1) := by decide +kernel
theorem dX11_cut_41 : decode cX11_cut 41 = .ok (.ireturn, 1) := by decide +kernel
theorem dX11_cut_42 : decode cX11_cut 42 = .ok (.iload_n 3, 1) := by decide +kernel
theorem dX11_cut_43 : decode cX11_cut 43 = .ok (.iconst 1, 1) := by decide +kernel
theorem dX11_cut_44 : decode cX11_cut 44 = .ok (.aload_n 0, 1) := by decide +kernel
theorem dX11_cut_45 : decode cX11_cut 45 = .ok (.getfield 85, 3) := by decide +kernel
theorem dX11_cut_48 : decode cX11_cut 48 = .ok (.iload_n 2, 1) := by decide +kernel
theorem dX11_cut_49 : decode cX11_cut 49 = .ok (.iaload, 1) := by decide +kernel
theorem dX11_cut_50 : decode cX11_cut 50 = .ok (.invokestatic 134, 3) := by decide +kernel
theorem dX11_cut_53 : decode cX11_cut 53 = .ok (.ifCond .ne 5, 3) := by decide +kernel
theorem dX11_cut_56 : decode cX11_cut 56 = .ok (.iconst 4, 1) := by decide +kernel
theorem dX11_cut_57 : decode cX11_cut 57 = .ok (.ireturn, 1) := by decide +kernel
theorem dX11_cut_58 : decode cX11_cut 58 = .ok (.aload_n 0, 1) := by decide +kernel
theorem dX11_cut_59 : decode cX11_cut 59 = .ok (.getfield 43, 3) := by decide +kernel
theorem dX11_cut_62 : decode cX11_cut 62 = .ok (.iload_n 1, 1) := by decide +kernel
theorem dX11_cut_63 : decode cX11_cut 63 = .ok (.aaload, 1) := by decide +kernel
theorem dX11_cut_64 : decode cX11_cut 64 = .ok (.astore 4, 2) := by decide +kernel
theorem dX11_cut_66 : decode cX11_cut 66 = .ok (.aload_n 0, 1) := by decide +kernel
theorem dX11_cut_67 : decode cX11_cut 67 = .ok (.getfield 91, 3) := by decide +kernel
theorem dX11_cut_70 : decode cX11_cut 70 = .ok (.iload_n 2, 1) := by decide +kernel
theorem dX11_cut_71 : decode cX11_cut 71 = .ok (.baload, 1) := by decide +kernel
theorem dX11_cut_72 : decode cX11_cut 72 = .ok (.ifCond .eq 14, 3) := by decide +kernel
theorem dX11_cut_75 : decode cX11_cut 75 = .ok (.aload_n 0, 1) := by decide +kernel
theorem dX11_cut_76 : decode cX11_cut 76 = .ok (.aload 4, 2) := by decide +kernel
theorem dX11_cut_78 : decode cX11_cut 78 = .ok (.invokevirtual 181, 3) := by decide +kernel
theorem dX11_cut_81 : decode cX11_cut 81 = .ok (.ifCond .ne 5, 3) := by decide +kernel
theorem dX11_cut_84 : decode cX11_cut 84 = .ok (.iconst 5, 1) := by decide +kernel
theorem dX11_cut_85 : decode cX11_cut 85 = .ok (.ireturn, 1) := by decide +kernel
theorem dX11_cut_86 : decode cX11_cut 86 = .ok (.iload_n 3, 1) := by decide +kernel
theorem dX11_cut_87 : decode cX11_cut 87 = .ok (.aload_n 0, 1) := by decide +kernel
theorem dX11_cut_88 : decode cX11_cut 88 = .ok (.getfield 32, 3) := by decide +kernel
theorem dX11_cut_91 : decode cX11_cut 91 = .ok (.idiv, 1) := by decide +kernel
theorem dX11_cut_92 : decode cX11_cut 92 = .ok (.istore 5, 2) := by decide +kernel
theorem dX11_cut_94 : decode cX11_cut 94 = .ok (.iconst 0, 1) := by decide +kernel
theorem dX11_cut_95 : decode cX11_cut 95 = .ok (.istore 6, 2) := by decide +kernel
theorem dX11_cut_97 : decode cX11_cut 97 = .ok (.iload 6, 2) := by decide +kernel
theorem dX11_cut_99 : decode cX11_cut 99 = .ok (.aload_n 0, 1) := by decide +kernel
theorem dX11_cut_100 : decode cX11_cut 100 = .ok (.getfield 122, 3) := by decide +kernel
theorem dX11_cut_103 : decode cX11_cut 103 = .ok (.if_icmp .ge 27, 3) := by decide +kernel
theorem dX11_cut_106 : decode cX11_cut 106 = .ok (.aload_n 0, 1) := by decide +kernel
theorem dX11_cut_107 : decode cX11_cut 107 = .ok (.getfield 23, 3) := by decide +kernel
theorem dX11_cut_110 : decode cX11_cut 110 = .ok (.iload 6, 2) := by decide +kernel
theorem dX11_cut_112 : decode cX11_cut 112 = .ok (.dup2, 1) := by decide +kernel
theorem dX11_cut_113 : decode cX11_cut 113 = .ok (.iaload, 1) := by decide +kernel
theorem dX11_cut_114 : decode cX11_cut 114 = .ok (.aload 4, 2) := by decide +kernel
theorem dX11_cut_116 : decode cX11_cut 116 = .ok (.iload 6, 2) := by decide +kernel
theorem dX11_cut_118 : decode cX11_cut 118 = .ok (.iaload, 1) := by decide +kernel
theorem dX11_cut_119 : decode cX11_cut 119 = .ok (.iload 5, 2) := by decide +kernel
theorem dX11_cut_121 : decode cX11_cut 121 = .ok (.imul, 1) := by decide +kernel
theorem dX11_cut_122 : decode cX11_cut 122 = .ok (.iadd, 1) := by decide +kernel
theorem dX11_cut_123 : decode cX11_cut 123 = .ok (.iastore, 1) := by decide +kernel
theorem dX11_cut_124 : decode cX11_cut 124 = .ok (.iinc 6 1, 3) := by decide +kernel
theorem dX11_cut_127 : decode cX11_cut 127 = .ok (.goto (-30), 3) := by decide +kernel
theorem dX11_cut_130 : decode cX11_cut 130 = .ok (.aload_n 0, 1) := by decide +kernel
theorem dX11_cut_131 : decode cX11_cut 131 = .ok (.getfield 95, 3) := by decide +kernel
theorem dX11_cut_134 : decode cX11_cut 134 = .ok (.iconst 0, 1) := by decide +kernel
theorem dX11_cut_135 : decode cX11_cut 135 = .ok (.dup2, 1) := by decide +kernel
theorem dX11_cut_136 : decode cX11_cut 136 = .ok (.laload, 1) := by decide +kernel
theorem dX11_cut_137 : decode cX11_cut 137 = .ok (.aload_n 0, 1) := by decide +kernel
theorem dX11_cut_138 : decode cX11_cut 138 = .ok (.getfield 7, 3) := by decide +kernel
theorem dX11_cut_141 : decode cX11_cut 141 = .ok (.i2l, 1) := by decide +kernel
theorem dX11_cut_142 : decode cX11_cut 142 = .ok (.aload_n 0, 1) := by decide +kernel
theorem dX11_cut_143 : decode cX11_cut 143 = .ok (.getfield 85, 3) := by decide +kernel
theorem dX11_cut_146 : decode cX11_cut 146 = .ok (.iload_n 2, 1) := by decide +kernel
theorem dX11_cut_147 : decode cX11_cut 147 = .ok (.iaload, 1) := by decide +kernel
theorem dX11_cut_148 : decode cX11_cut 148 = .ok (.i2l, 1) := by decide +kernel
theorem dX11_cut_149 : decode cX11_cut 149 = .ok (.lmul, 1) := by decide +kernel
theorem dX11_cut_150 : decode cX11_cut 150 = .ok (.ladd, 1) := by decide +kernel
theorem dX11_cut_151 : decode cX11_cut 151 = .ok (.lastore, 1) := by decide +kernel
theorem dX11_cut_152 : decode cX11_cut 152 = .ok (.aload_n 0, 1) := by decide +kernel
theorem dX11_cut_153 : decode cX11_cut 153 = .ok (.getfield 95, 3) := by decide +kernel
theorem dX11_cut_156 : decode cX11_cut 156 = .ok (.iconst 1, 1) := by decide +kernel
theorem dX11_cut_157 : decode cX11_cut 157 = .ok (.dup2, 1) := by decide +kernel
theorem dX11_cut_158 : decode cX11_cut 158 = .ok (.laload, 1) := by decide +kernel
theorem dX11_cut_159 : decode cX11_cut 159 = .ok (.aload_n 0, 1) := by decide +kernel
theorem dX11_cut_160 : decode cX11_cut 160 = .ok (.getfield 32, 3) := by decide +kernel
theorem dX11_cut_163 : decode cX11_cut 163 = .ok (.i2l, 1) := by decide +kernel
theorem dX11_cut_164 : decode cX11_cut 164 = .ok (.iload 5, 2) := by decide +kernel
theorem dX11_cut_166 : decode cX11_cut 166 = .ok (.i2l, 1) := by decide +kernel
theorem dX11_cut_167 : decode cX11_cut 167 = .ok (.lmul, 1) := by decide +kernel
theorem dX11_cut_168 : decode cX11_cut 168 = .ok (.aload_n 0, 1) := by decide +kernel
theorem dX11_cut_169 : decode cX11_cut 169 = .ok (.aload 4, 2) := by decide +kernel
theorem dX11_cut_171 : decode cX11_cut 171 = .ok (.invokevirtual 173, 3) := by decide +kernel
theorem dX11_cut_174 : decode cX11_cut 174 = .ok (.i2l, 1) := by decide +kernel
theorem dX11_cut_175 : decode cX11_cut 175 = .ok (.lmul, 1) := by decide +kernel
theorem dX11_cut_176 : decode cX11_cut 176 = .ok (.ladd, 1) := by decide +kernel
theorem dX11_cut_177 : decode cX11_cut 177 = .ok (.lastore, 1) := by decide +kernel
theorem dX11_cut_178 : decode cX11_cut 178 = .ok (.aload_n 0, 1) := by decide +kernel
theorem dX11_cut_179 : decode cX11_cut 179 = .ok (.getfield 95, 3) := by decide +kernel
theorem dX11_cut_182 : decode cX11_cut 182 = .ok (.iconst 4, 1) := by decide +kernel
theorem dX11_cut_183 : decode cX11_cut 183 = .ok (.dup2, 1) := by decide +kernel
theorem dX11_cut_184 : decode cX11_cut 184 = .ok (.laload, 1) := by decide +kernel
theorem dX11_cut_185 : decode cX11_cut 185 = .ok (.lconst 1, 1) := by decide +kernel
theorem dX11_cut_186 : decode cX11_cut 186 = .ok (.ladd, 1) := by decide +kernel
theorem dX11_cut_187 : decode cX11_cut 187 = .ok (.lastore, 1) := by decide +kernel
theorem dX11_cut_188 : decode cX11_cut 188 = .ok (.aload_n 0, 1) := by decide +kernel
theorem dX11_cut_189 : decode cX11_cut 189 = .ok (.getfield 95, 3) := by decide +kernel
theorem dX11_cut_192 : decode cX11_cut 192 = .ok (.iconst 5, 1) := by decide +kernel
theorem dX11_cut_193 : decode cX11_cut 193 = .ok (.dup2, 1) := by decide +kernel
theorem dX11_cut_194 : decode cX11_cut 194 = .ok (.laload, 1) := by decide +kernel
theorem dX11_cut_195 : decode cX11_cut 195 = .ok (.iload 5, 2) := by decide +kernel
theorem dX11_cut_197 : decode cX11_cut 197 = .ok (.i2l, 1) := by decide +kernel
theorem dX11_cut_198 : decode cX11_cut 198 = .ok (.ladd, 1) := by decide +kernel
theorem dX11_cut_199 : decode cX11_cut 199 = .ok (.lastore, 1) := by decide +kernel
theorem dX11_cut_200 : decode cX11_cut 200 = .ok (.aload_n 0, 1) := by decide +kernel
theorem dX11_cut_201 : decode cX11_cut 201 = .ok (.getfield 95, 3) := by decide +kernel
theorem dX11_cut_204 : decode cX11_cut 204 = .ok (.bipush 6, 2) := by decide +kernel
theorem dX11_cut_206 : decode cX11_cut 206 = .ok (.dup2, 1) := by decide +kernel
theorem dX11_cut_207 : decode cX11_cut 207 = .ok (.laload, 1) := by decide +kernel
theorem dX11_cut_208 : decode cX11_cut 208 = .ok (.aload_n 0, 1) := by decide +kernel
theorem dX11_cut_209 : decode cX11_cut 209 = .ok (.iconst (-1), 1) := by decide +kernel
theorem dX11_cut_210 : decode cX11_cut 210 = .ok (.iload_n 1, 1) := by decide +kernel
theorem dX11_cut_211 : decode cX11_cut 211 = .ok (.invokevirtual 242, 3) := by decide +kernel
theorem dX11_cut_214 : decode cX11_cut 214 = .ok (.i2l, 1) := by decide +kernel
theorem dX11_cut_215 : decode cX11_cut 215 = .ok (.ladd, 1) := by decide +kernel
theorem dX11_cut_216 : decode cX11_cut 216 = .ok (.lastore, 1) := by decide +kernel
theorem dX11_cut_217 : decode cX11_cut 217 = .ok (.aload_n 0, 1) := by decide +kernel
theorem dX11_cut_218 : decode cX11_cut 218 = .ok (.aload_n 0, 1) := by decide +kernel
theorem dX11_cut_219 : decode cX11_cut 219 = .ok (.aload 4, 2) := by decide +kernel
theorem dX11_cut_221 : decode cX11_cut 221 = .ok (.aload_n 0, 1) := by decide +kernel
theorem dX11_cut_222 : decode cX11_cut 222 = .ok (.getfield 73, 3) := by decide +kernel
theorem dX11_cut_225 : decode cX11_cut 225 = .ok (.invokevirtual 231, 3) := by decide +kernel
theorem dX11_cut_228 : decode cX11_cut 228 = .ok (.putfield 235, 3) := by decide +kernel
theorem dX11_cut_231 : decode cX11_cut 231 = .ok (.aload_n 0, 1) := by decide +kernel
theorem dX11_cut_232 : decode cX11_cut 232 = .ok (.getfield 88, 3) := by decide +kernel
theorem dX11_cut_235 : decode cX11_cut 235 = .ok (.iload_n 2, 1) := by decide +kernel
theorem dX11_cut_236 : decode cX11_cut 236 = .ok (.dup2, 1) := by decide +kernel
theorem dX11_cut_237 : decode cX11_cut 237 = .ok (.iaload, 1) := by decide +kernel
theorem dX11_cut_238 : decode cX11_cut 238 = .ok (.iconst 1, 1) := by decide +kernel
theorem dX11_cut_239 : decode cX11_cut 239 = .ok (.isub, 1) := by decide +kernel
theorem dX11_cut_240 : decode cX11_cut 240 = .ok (.iastore, 1) := by decide +kernel
theorem dX11_cut_241 : decode cX11_cut 241 = .ok (.aload_n 0, 1) := by decide +kernel
theorem dX11_cut_242 : decode cX11_cut 242 = .ok (.getfield 85, 3) := by decide +kernel
theorem dX11_cut_245 : decode cX11_cut 245 = .ok (.iload_n 2, 1) := by decide +kernel
theorem dX11_cut_246 : decode cX11_cut 246 = .ok (.iaload, 1) := by decide +kernel
theorem dX11_cut_247 : decode cX11_cut 247 = .ok (.iload_n 3, 1) := by decide +kernel
theorem dX11_cut_248 : decode cX11_cut 248 = .ok (.isub, 1) := by decide +kernel
theorem dX11_cut_249 : decode cX11_cut 249 = .ok (.istore 6, 2) := by decide +kernel
theorem dX11_cut_251 : decode cX11_cut 251 = .ok (.iload 6, 2) := by decide +kernel
theorem dX11_cut_253 : decode cX11_cut 253 = .ok (.aload_n 0, 1) := by decide +kernel
theorem dX11_cut_254 : decode cX11_cut 254 = .ok (.getfield 32, 3) := by decide +kernel
theorem dX11_cut_257 : decode cX11_cut 257 = .ok (.if_icmp .lt 76, 3) := by decide +kernel
theorem dX11_cut_260 : decode cX11_cut 260 = .ok (.aload_n 0, 1) := by decide +kernel
theorem dX11_cut_261 : decode cX11_cut 261 = .ok (.getfield 249, 3) := by decide +kernel
theorem dX11_cut_264 : decode cX11_cut 264 = .ok (.bipush 8, 2) := by decide +kernel
theorem dX11_cut_266 : decode cX11_cut 266 = .ok (.if_icmp .ge 67, 3) := by decide +kernel
theorem dX11_cut_269 : decode cX11_cut 269 = .ok (.aload_n 0, 1) := by decide +kernel
theorem dX11_cut_270 : decode cX11_cut 270 = .ok (.getfield 95, 3) := by decide +kernel
theorem dX11_cut_273 : decode cX11_cut 273 = .ok (.iconst 2, 1) := by decide +kernel
theorem dX11_cut_274 : decode cX11_cut 274 = .ok (.dup2, 1) := by decide +kernel
theorem dX11_cut_275 : decode cX11_cut 275 = .ok (.laload, 1) := by decide +kernel
theorem dX11_cut_276 : decode cX11_cut 276 = .ok (.aload_n 0, 1) := by decide +kernel
theorem dX11_cut_277 : decode cX11_cut 277 = .ok (.getfield 7, 3) := by decide +kernel
theorem dX11_cut_280 : decode cX11_cut 280 = .ok (.i2l, 1) := by decide +kernel
theorem dX11_cut_281 : decode cX11_cut 281 = .ok (.iload 6, 2) := by decide +kernel
theorem dX11_cut_283 : decode cX11_cut 283 = .ok (.i2l, 1) := by decide +kernel
theorem dX11_cut_284 : decode cX11_cut 284 = .ok (.lmul, 1) := by decide +kernel
theorem dX11_cut_285 : decode cX11_cut 285 = .ok (.ladd, 1) := by decide +kernel
theorem dX11_cut_286 : decode cX11_cut 286 = .ok (.lastore, 1) := by decide +kernel
theorem dX11_cut_287 : decode cX11_cut 287 = .ok (.aload_n 0, 1) := by decide +kernel
theorem dX11_cut_288 : decode cX11_cut 288 = .ok (.getfield 85, 3) := by decide +kernel
theorem dX11_cut_291 : decode cX11_cut 291 = .ok (.aload_n 0, 1) := by decide +kernel
theorem dX11_cut_292 : decode cX11_cut 292 = .ok (.getfield 249, 3) := by decide +kernel
theorem dX11_cut_295 : decode cX11_cut 295 = .ok (.iload 6, 2) := by decide +kernel
theorem dX11_cut_297 : decode cX11_cut 297 = .ok (.iastore, 1) := by decide +kernel
theorem dX11_cut_298 : decode cX11_cut 298 = .ok (.aload_n 0, 1) := by decide +kernel
theorem dX11_cut_299 : decode cX11_cut 299 = .ok (.getfield 88, 3) := by decide +kernel
theorem dX11_cut_302 : decode cX11_cut 302 = .ok (.aload_n 0, 1) := by decide +kernel
theorem dX11_cut_303 : decode cX11_cut 303 = .ok (.getfield 249, 3) := by decide +kernel
theorem dX11_cut_306 : decode cX11_cut 306 = .ok (.iconst 1, 1) := by decide +kernel
theorem dX11_cut_307 : decode cX11_cut 307 = .ok (.iastore, 1) := by decide +kernel
theorem dX11_cut_308 : decode cX11_cut 308 = .ok (.aload_n 0, 1) := by decide +kernel
theorem dX11_cut_309 : decode cX11_cut 309 = .ok (.getfield 91, 3) := by decide +kernel
theorem dX11_cut_312 : decode cX11_cut 312 = .ok (.aload_n 0, 1) := by decide +kernel
theorem dX11_cut_313 : decode cX11_cut 313 = .ok (.getfield 249, 3) := by decide +kernel
theorem dX11_cut_316 : decode cX11_cut 316 = .ok (.aload_n 0, 1) := by decide +kernel
theorem dX11_cut_317 : decode cX11_cut 317 = .ok (.getfield 91, 3) := by decide +kernel
theorem dX11_cut_320 : decode cX11_cut 320 = .ok (.iload_n 2, 1) := by decide +kernel
theorem dX11_cut_321 : decode cX11_cut 321 = .ok (.baload, 1) := by decide +kernel
theorem dX11_cut_322 : decode cX11_cut 322 = .ok (.bastore, 1) := by decide +kernel
theorem dX11_cut_323 : decode cX11_cut 323 = .ok (.aload_n 0, 1) := by decide +kernel
theorem dX11_cut_324 : decode cX11_cut 324 = .ok (.dup, 1) := by decide +kernel
theorem dX11_cut_325 : decode cX11_cut 325 = .ok (.getfield 249, 3) := by decide +kernel
theorem dX11_cut_328 : decode cX11_cut 328 = .ok (.iconst 1, 1) := by decide +kernel
theorem dX11_cut_329 : decode cX11_cut 329 = .ok (.iadd, 1) := by decide +kernel
theorem dX11_cut_330 : decode cX11_cut 330 = .ok (.putfield 249, 3) := by decide +kernel
theorem dX11_cut_333 : decode cX11_cut 333 = .ok (.aload_n 0, 1) := by decide +kernel
theorem dX11_cut_334 : decode cX11_cut 334 = .ok (.getfield 95, 3) := by decide +kernel
theorem dX11_cut_337 : decode cX11_cut 337 = .ok (.iconst 3, 1) := by decide +kernel
theorem dX11_cut_338 : decode cX11_cut 338 = .ok (.aload_n 0, 1) := by decide +kernel
theorem dX11_cut_339 : decode cX11_cut 339 = .ok (.getfield 95, 3) := by decide +kernel
theorem dX11_cut_342 : decode cX11_cut 342 = .ok (.iconst 0, 1) := by decide +kernel
theorem dX11_cut_343 : decode cX11_cut 343 = .ok (.laload, 1) := by decide +kernel
theorem dX11_cut_344 : decode cX11_cut 344 = .ok (.aload_n 0, 1) := by decide +kernel
theorem dX11_cut_345 : decode cX11_cut 345 = .ok (.getfield 95, 3) := by decide +kernel
theorem dX11_cut_348 : decode cX11_cut 348 = .ok (.iconst 1, 1) := by decide +kernel
theorem dX11_cut_349 : decode cX11_cut 349 = .ok (.laload, 1) := by decide +kernel
theorem dX11_cut_350 : decode cX11_cut 350 = .ok (.lsub, 1) := by decide +kernel
theorem dX11_cut_351 : decode cX11_cut 351 = .ok (.aload_n 0, 1) := by decide +kernel
theorem dX11_cut_352 : decode cX11_cut 352 = .ok (.getfield 95, 3) := by decide +kernel
theorem dX11_cut_355 : decode cX11_cut 355 = .ok (.iconst 2, 1) := by decide +kernel
theorem dX11_cut_356 : decode cX11_cut 356 = .ok (.laload, 1) := by decide +kernel
theorem dX11_cut_357 : decode cX11_cut 357 = .ok (.lsub, 1) := by decide +kernel
theorem dX11_cut_358 : decode cX11_cut 358 = .ok (.lastore, 1) := by decide +kernel
theorem dX11_cut_359 : decode cX11_cut 359 = .ok (.aload_n 0, 1) := by decide +kernel
theorem dX11_cut_360 : decode cX11_cut 360 = .ok (.getfield 46, 3) := by decide +kernel
theorem dX11_cut_363 : decode cX11_cut 363 = .ok (.iload_n 1, 1) := by decide +kernel
theorem dX11_cut_364 : decode cX11_cut 364 = .ok (.dup2, 1) := by decide +kernel
theorem dX11_cut_365 : decode cX11_cut 365 = .ok (.iaload, 1) := by decide +kernel
theorem dX11_cut_366 : decode cX11_cut 366 = .ok (.iconst 1, 1) := by decide +kernel
theorem dX11_cut_367 : decode cX11_cut 367 = .ok (.isub, 1) := by decide +kernel
theorem dX11_cut_368 : decode cX11_cut 368 = .ok (.iastore, 1) := by decide +kernel
theorem dX11_cut_369 : decode cX11_cut 369 = .ok (.aload_n 0, 1) := by decide +kernel
theorem dX11_cut_370 : decode cX11_cut 370 = .ok (.getfield 46, 3) := by decide +kernel
theorem dX11_cut_373 : decode cX11_cut 373 = .ok (.iload_n 1, 1) := by decide +kernel
theorem dX11_cut_374 : decode cX11_cut 374 = .ok (.iaload, 1) := by decide +kernel
theorem dX11_cut_375 : decode cX11_cut 375 = .ok (.ifCond .ne 8, 3) := by decide +kernel
theorem dX11_cut_378 : decode cX11_cut 378 = .ok (.aload_n 0, 1) := by decide +kernel
theorem dX11_cut_379 : decode cX11_cut 379 = .ok (.iload_n 1, 1) := by decide +kernel
theorem dX11_cut_380 : decode cX11_cut 380 = .ok (.invokevirtual 227, 3) := by decide +kernel
theorem dX11_cut_383 : decode cX11_cut 383 = .ok (.iconst 0, 1) := by decide +kernel
theorem dX11_cut_384 : decode cX11_cut 384 = .ok (.ireturn, 1) := by decide +kernel
set_option maxRecDepth 20000 in
theorem ggX11_area_X11_in : GoodIn wsX11_area wsX11_in := goodIn_r _ [7] (by decide +kernel) (by decide +kernel)
set_option maxRecDepth 20000 in
theorem gX11_area_X11_in : GoodIn wsX11_area (va_wsS RX11 134 yX11_in wsX11_in) := goodIn_app (goodIn_of _ (by decide +kernel)) ggX11_area_X11_in
theorem dX11_area_0 : decode cX11_area 0 = .ok (.aload_n 0, 1) := by decide +kernel
theorem dX11_area_1 : decode cX11_area 1 = .ok (.iconst 0, 1) := by decide +kernel
theorem dX11_area_2 : decode cX11_area 2 = .ok (.putfield 99, 3) := by decide +kernel
theorem dX11_area_5 : decode cX11_area 5 = .ok (.iload_n 1, 1) := by decide +kernel
theorem dX11_area_6 : decode cX11_area 6 = .ok (.iconst 0, 1) := by decide +kernel
theorem dX11_area_7 : decode cX11_area 7 = .ok (.bipush 6, 2) := by decide +kernel
theorem dX11_area_9 : decode cX11_area 9 = .ok (.invokestatic 134, 3) := by decide +kernel
theorem dX11_area_12 : decode cX11_area 12 = .ok (.ifCond .eq 12, 3) := by decide +kernel
theorem dX11_area_15 : decode cX11_area 15 = .ok (.aload_n 0, 1) := by decide +kernel
theorem dX11_area_16 : decode cX11_area 16 = .ok (.getfield 95, 3) := by decide +kernel
theorem dX11_area_19 : decode cX11_area 19 = .ok (.iload_n 1, 1) := by decide +kernel
theorem dX11_area_20 : decode cX11_area 20 = .ok (.laload, 1) := by decide +kernel
theorem dX11_area_21 : decode cX11_area 21 = .ok (.goto 6, 3) := by decide +kernel
theorem dX11_area_24 : decode cX11_area 24 = .ok (.ldc2_w 252, 3) := by decide +kernel
theorem dX11_area_27 : decode cX11_area 27 = .ok (.lreturn, 1) := by decide +kernel
set_option maxRecDepth 20000 in
theorem ggX11_keep_X11_copy : GoodIn wsX11_keep wsX11_copy := goodIn_r _ [13] (by decide +kernel) (by decide +kernel)
set_option maxRecDepth 20000 in
theorem gX11_keep_X11_copy : GoodIn wsX11_keep (va_wsS RX11 193 yX11_copy wsX11_copy) := goodIn_app (goodIn_of _ (by decide +kernel)) ggX11_keep_X11_copy
theorem dX11_keep_0 : decode cX11_keep 0 = .ok (.aload_n 0, 1) := by decide +kernel
theorem dX11_keep_1 : decode cX11_keep 1 = .ok (.iconst 0, 1) := by decide +kernel
theorem dX11_keep_2 : decode cX11_keep 2 = .ok (.putfield 99, 3) := by decide +kernel
theorem dX11_keep_5 : decode cX11_keep 5 = .ok (.aload_n 0, 1) := by decide +kernel
theorem dX11_keep_6 : decode cX11_keep 6 = .ok (.iconst 1, 1) := by decide +kernel
theorem dX11_keep_7 : decode cX11_keep 7 = .ok (.putfield 254, 3) := by decide +kernel
theorem dX11_keep_10 : decode cX11_keep 10 = .ok (.aload_n 0, 1) := by decide +kernel
theorem dX11_keep_11 : decode cX11_keep 11 = .ok (.iconst 0, 1) := by decide +kernel
theorem dX11_keep_12 : decode cX11_keep 12 = .ok (.putfield 154, 3) := by decide +kernel
theorem dX11_keep_15 : decode cX11_keep 15 = .ok (.aload_n 0, 1) := by decide +kernel
theorem dX11_keep_16 : decode cX11_keep 16 = .ok (.aload_n 0, 1) := by decide +kernel
theorem dX11_keep_17 : decode cX11_keep 17 = .ok (.getfield 151, 3) := by decide +kernel
theorem dX11_keep_20 : decode cX11_keep 20 = .ok (.putfield 257, 3) := by decide +kernel
theorem dX11_keep_23 : decode cX11_keep 23 = .ok (.aload_n 0, 1) := by decide +kernel
theorem dX11_keep_24 : decode cX11_keep 24 = .ok (.getfield 43, 3) := by decide +kernel
theorem dX11_keep_27 : decode cX11_keep 27 = .ok (.aload_n 0, 1) := by decide +kernel
theorem dX11_keep_28 : decode cX11_keep 28 = .ok (.getfield 46, 3) := by decide +kernel
theorem dX11_keep_31 : decode cX11_keep 31 = .ok (.aload_n 0, 1) := by decide +kernel
theorem dX11_keep_32 : decode cX11_keep 32 = .ok (.getfield 151, 3) := by decide +kernel
theorem dX11_keep_35 : decode cX11_keep 35 = .ok (.aload_n 0, 1) := by decide +kernel
theorem dX11_keep_36 : decode cX11_keep 36 = .ok (.getfield 55, 3) := by decide +kernel
theorem dX11_keep_39 : decode cX11_keep 39 = .ok (.aload_n 0, 1) := by decide +kernel
theorem dX11_keep_40 : decode cX11_keep 40 = .ok (.getfield 58, 3) := by decide +kernel
theorem dX11_keep_43 : decode cX11_keep 43 = .ok (.invokestatic 193, 3) := by decide +kernel
theorem dX11_keep_46 : decode cX11_keep 46 = .ok (.return_, 1) := by decide +kernel
set_option maxRecDepth 20000 in
theorem ggX11_undo_X11_copy : GoodIn wsX11_undo wsX11_copy := goodIn_r _ [13] (by decide +kernel) (by decide +kernel)
set_option maxRecDepth 20000 in
theorem gX11_undo_X11_copy : GoodIn wsX11_undo (va_wsS RX11 193 yX11_copy wsX11_copy) := goodIn_app (goodIn_of _ (by decide +kernel)) ggX11_undo_X11_copy
theorem dX11_undo_0 : decode cX11_undo 0 = .ok (.aload_n 0, 1) := by decide +kernel
theorem dX11_undo_1 : decode cX11_undo 1 = .ok (.iconst 0, 1) := by decide +kernel
theorem dX11_undo_2 : decode cX11_undo 2 = .ok (.putfield 99, 3) := by decide +kernel
theorem dX11_undo_5 : decode cX11_undo 5 = .ok (.aload_n 0, 1) := by decide +kernel
theorem dX11_undo_6 : decode cX11_undo 6 = .ok (.getfield 254, 3) := by decide +kernel
theorem dX11_undo_9 : decode cX11_undo 9 = .ok (.ifCond .eq 10, 3) := by decide +kernel
theorem dX11_undo_12 : decode cX11_undo 12 = .ok (.aload_n 0, 1) := by decide +kernel
theorem dX11_undo_13 : decode cX11_undo 13 = .ok (.getfield 154, 3) := by decide +kernel
theorem dX11_undo_16 : decode cX11_undo 16 = .ok (.ifCond .eq 5, 3) := by decide +kernel
theorem dX11_undo_19 : decode cX11_undo 19 = .ok (.iconst 0, 1) := by decide +kernel
theorem dX11_undo_20 : decode cX11_undo 20 = .ok (.ireturn, 1) := by decide +kernel
theorem dX11_undo_21 : decode cX11_undo 21 = .ok (.aload_n 0, 1) := by decide +kernel
theorem dX11_undo_22 : decode cX11_undo 22 = .ok (.aload_n 0, 1) := by decide +kernel
theorem dX11_undo_23 : decode cX11_undo 23 = .ok (.getfield 257, 3) := by decide +kernel
theorem dX11_undo_26 : decode cX11_undo 26 = .ok (.putfield 151, 3) := by decide +kernel
theorem dX11_undo_29 : decode cX11_undo 29 = .ok (.aload_n 0, 1) := by decide +kernel
theorem dX11_undo_30 : decode cX11_undo 30 = .ok (.getfield 55, 3) := by decide +kernel
theorem dX11_undo_33 : decode cX11_undo 33 = .ok (.aload_n 0, 1) := by decide +kernel
theorem dX11_undo_34 : decode cX11_undo 34 = .ok (.getfield 58, 3) := by decide +kernel
theorem dX11_undo_37 : decode cX11_undo 37 = .ok (.aload_n 0, 1) := by decide +kernel
theorem dX11_undo_38 : decode cX11_undo 38 = .ok (.getfield 257, 3) := by decide +kernel
theorem dX11_undo_41 : decode cX11_undo 41 = .ok (.aload_n 0, 1) := by decide +kernel
theorem dX11_undo_42 : decode cX11_undo 42 = .ok (.getfield 43, 3) := by decide +kernel
theorem dX11_undo_45 : decode cX11_undo 45 = .ok (.aload_n 0, 1) := by decide +kernel
theorem dX11_undo_46 : decode cX11_undo 46 = .ok (.getfield 46, 3) := by decide +kernel
theorem dX11_undo_49 : decode cX11_undo 49 = .ok (.invokestatic 193, 3) := by decide +kernel
theorem dX11_undo_52 : decode cX11_undo 52 = .ok (.iconst 1, 1) := by decide +kernel
theorem dX11_undo_53 : decode cX11_undo 53 = .ok (.ireturn, 1) := by decide +kernel
set_option maxRecDepth 20000 in
theorem ggX11_share_X11_isPattern : GoodIn wsX11_share wsX11_isPattern := goodIn_r _ [8, 9, 10, 11, 12, 7, 13, 14, 15, 16, 17, 18, 19, 20, 21, 22, 23, 24, 25, 26, 3, 27, 28, 29, 30, 31, 32, 33, 34, 35, 40, 41, 42, 43, 44, 45, 46, 47, 48, 49, 50, 51, 52, 53, 54, 55, 56, 57, 58, 59, 60, 61, 62, 63, 64, 65, 66, 67, 68, 69, 70, 71, 72, 73, 74, 75, 76, 77, 78, 79, 80, 81] (by decide +kernel) (by decide +kernel)
set_option maxRecDepth 20000 in
theorem gX11_share_X11_isPattern : GoodIn wsX11_share (wsV RX11 168 RX11 yX11_isPattern wsX11_isPattern) := goodIn_app (goodIn_of _ (by decide +kernel)) ggX11_share_X11_isPattern
set_option maxRecDepth 20000 in
theorem ggX11_share_X11_in : GoodIn wsX11_share wsX11_in := goodIn_r _ [35] (by decide +kernel) (by decide +kernel)
set_option maxRecDepth 20000 in
theorem gX11_share_X11_in : GoodIn wsX11_share (va_wsS RX11 134 yX11_in wsX11_in) := goodIn_app (goodIn_of _ (by decide +kernel)) ggX11_share_X11_in
set_option maxRecDepth 20000 in
theorem ggX11_share_X11_sumOf : GoodIn wsX11_share wsX11_sumOf := goodIn_r _ [39, 26, 28, 40, 41, 42, 43, 44, 45, 46, 47, 48, 49, 50, 51, 52, 53, 54, 55, 56, 57, 58, 59, 60, 61, 62, 63, 64, 65, 66, 67, 68, 69, 70, 71, 72, 73, 74, 75, 76, 77, 78, 79, 80, 81] (by decide +kernel) (by decide +kernel)
set_option maxRecDepth 20000 in
theorem gX11_share_X11_sumOf : GoodIn wsX11_share (wsV RX11 173 RX11 yX11_sumOf wsX11_sumOf) := goodIn_app (goodIn_of _ (by decide +kernel)) ggX11_share_X11_sumOf
theorem dX11_share_0 : decode cX11_share 0 = .ok (.aload_n 0, 1) := by decide +kernel
theorem dX11_share_1 : decode cX11_share 1 = .ok (.iconst 0, 1) := by decide +kernel
theorem dX11_share_2 : decode cX11_share 2 = .ok (.putfield 99, 3) := by decide +kernel
theorem dX11_share_5 : decode cX11_share 5 = .ok (.aload_n 0, 1) := by decide +kernel
theorem dX11_share_6 : decode cX11_share 6 = .ok (.iload_n 1, 1) := by decide +kernel
theorem dX11_share_7 : decode cX11_share 7 = .ok (.invokevirtual 168, 3) := by decide +kernel
theorem dX11_share_10 : decode cX11_share 10 = .ok (.ifCond .eq 12, 3) := by decide +kernel
theorem dX11_share_13 : decode cX11_share 13 = .ok (.iload_n 3, 1) := by decide +kernel
theorem dX11_share_14 : decode cX11_share 14 = .ok (.iconst 0, 1) := by decide +kernel
theorem dX11_share_15 : decode cX11_share 15 = .ok (.iconst 1, 1) := by decide +kernel
theorem dX11_share_16 : decode cX11_share 16 = .ok (.invokestatic 134, 3) := by decide +kernel
theorem dX11_share_19 : decode cX11_share 19 = .ok (.ifCond .ne 7, 3) := by decide +kernel
theorem dX11_share_22 : decode cX11_share 22 = .ok (.ldc_w 260, 3) := by decide +kernel
theorem dX11_share_25 : decode cX11_share 25 = .ok (.ireturn, 1) := by decide +kernel
theorem dX11_share_26 : decode cX11_share 26 = .ok (.iload_n 2, 1) := by decide +kernel
theorem dX11_share_27 : decode cX11_share 27 = .ok (.ifCond .ne 10, 3) := by decide +kernel
theorem dX11_share_30 : decode cX11_share 30 = .ok (.aload_n 0, 1) := by decide +kernel
theorem dX11_share_31 : decode cX11_share 31 = .ok (.iconst 1, 1) := by decide +kernel
theorem dX11_share_32 : decode cX11_share 32 = .ok (.putfield 99, 3) := by decide +kernel
theorem dX11_share_35 : decode cX11_share 35 = .ok (.iconst 0, 1) := by decide +kernel
theorem dX11_share_36 : decode cX11_share 36 = .ok (.ireturn, 1) := by decide +kernel
theorem dX11_share_37 : decode cX11_share 37 = .ok (.aload_n 0, 1) := by decide +kernel
theorem dX11_share_38 : decode cX11_share 38 = .ok (.aload_n 0, 1) := by decide +kernel
theorem dX11_share_39 : decode cX11_share 39 = .ok (.getfield 37, 3) := by decide +kernel
theorem dX11_share_42 : decode cX11_share 42 = .ok (.iload_n 1, 1) := by decide +kernel
theorem dX11_share_43 : decode cX11_share 43 = .ok (.aaload, 1) := by decide +kernel
theorem dX11_share_44 : decode cX11_share 44 = .ok (.invokevirtual 173, 3) := by decide +kernel
theorem dX11_share_47 : decode cX11_share 47 = .ok (.istore 4, 2) := by decide +kernel
theorem dX11_share_49 : decode cX11_share 49 = .ok (.iload_n 3, 1) := by decide +kernel
theorem dX11_share_50 : decode cX11_share 50 = .ok (.ifCond .ne 10, 3) := by decide +kernel
theorem dX11_share_53 : decode cX11_share 53 = .ok (.iload 4, 2) := by decide +kernel
theorem dX11_share_55 : decode cX11_share 55 = .ok (.iload_n 2, 1) := by decide +kernel
theorem dX11_share_56 : decode cX11_share 56 = .ok (.idiv, 1) := by decide +kernel
theorem dX11_share_57 : decode cX11_share 57 = .ok (.goto 7, 3) := by decide +kernel
theorem dX11_share_60 : decode cX11_share 60 = .ok (.iload 4, 2) := by decide +kernel
theorem dX11_share_62 : decode cX11_share 62 = .ok (.iload_n 2, 1) := by decide +kernel
theorem dX11_share_63 : decode cX11_share 63 = .ok (.irem, 1) := by decide +kernel
theorem dX11_share_64 : decode cX11_share 64 = .ok (.ireturn, 1) := by decide +kernel
theorem dJ9_max_7cf53_0 : decode cJ9_max_7cf53 0 = .ok (.iload_n 0, 1) := by decide +kernel
theorem dJ9_max_7cf53_1 : decode cJ9_max_7cf53 1 = .ok (.iload_n 1, 1) := by decide +kernel
theorem dJ9_max_7cf53_2 : decode cJ9_max_7cf53 2 = .ok (.if_icmp .lt 7, 3) := by decide +kernel
theorem dJ9_max_7cf53_5 : decode cJ9_max_7cf53 5 = .ok (.iload_n 0, 1) := by decide +kernel
theorem dJ9_max_7cf53_6 : decode cJ9_max_7cf53 6 = .ok (.goto 4, 3) := by decide +kernel
theorem dJ9_max_7cf53_9 : decode cJ9_max_7cf53 9 = .ok (.iload_n 1, 1) := by decide +kernel
theorem dJ9_max_7cf53_10 : decode cJ9_max_7cf53 10 = .ok (.ireturn, 1) := by decide +kernel
theorem dJ9_min_7cf53_0 : decode cJ9_min_7cf53 0 = .ok (.iload_n 0, 1) := by decide +kernel
theorem dJ9_min_7cf53_1 : decode cJ9_min_7cf53 1 = .ok (.iload_n 1, 1) := by decide +kernel
theorem dJ9_min_7cf53_2 : decode cJ9_min_7cf53 2 = .ok (.if_icmp .gt 7, 3) := by decide +kernel
theorem dJ9_min_7cf53_5 : decode cJ9_min_7cf53 5 = .ok (.iload_n 0, 1) := by decide +kernel
theorem dJ9_min_7cf53_6 : decode cJ9_min_7cf53 6 = .ok (.goto 4, 3) := by decide +kernel
theorem dJ9_min_7cf53_9 : decode cJ9_min_7cf53 9 = .ok (.iload_n 1, 1) := by decide +kernel
theorem dJ9_min_7cf53_10 : decode cJ9_min_7cf53 10 = .ok (.ireturn, 1) := by decide +kernel
theorem dJ9_min_f86c9_0 : decode cJ9_min_f86c9 0 = .ok (.lload_n 0, 1) := by decide +kernel
theorem dJ9_min_f86c9_1 : decode cJ9_min_f86c9 1 = .ok (.lload_n 2, 1) := by decide +kernel
theorem dJ9_min_f86c9_2 : decode cJ9_min_f86c9 2 = .ok (.lcmp, 1) := by decide +kernel
theorem dJ9_min_f86c9_3 : decode cJ9_min_f86c9 3 = .ok (.ifCond .gt 7, 3) := by decide +kernel
theorem dJ9_min_f86c9_6 : decode cJ9_min_f86c9 6 = .ok (.lload_n 0, 1) := by decide +kernel
theorem dJ9_min_f86c9_7 : decode cJ9_min_f86c9 7 = .ok (.goto 4, 3) := by decide +kernel
theorem dJ9_min_f86c9_10 : decode cJ9_min_f86c9 10 = .ok (.lload_n 2, 1) := by decide +kernel
theorem dJ9_min_f86c9_11 : decode cJ9_min_f86c9 11 = .ok (.lreturn, 1) := by decide +kernel
