theorem dX12_init_0 : decode cX12_init 0 = .ok (.aload_n 0, 1) := by decide +kernel
theorem dX12_init_1 : decode cX12_init 1 = .ok (.invokespecial 1, 3) := by decide +kernel
theorem dX12_init_4 : decode cX12_init 4 = .ok (.aload_n 0, 1) := by decide +kernel
theorem dX12_init_5 : decode cX12_init 5 = .ok (.iconst 3, 1) := by decide +kernel
theorem dX12_init_6 : decode cX12_init 6 = .ok (.putfield 7, 3) := by decide +kernel
theorem dX12_init_9 : decode cX12_init 9 = .ok (.aload_n 0, 1) := by decide +kernel
theorem dX12_init_10 : decode cX12_init 10 = .ok (.iconst 4, 1) := by decide +kernel
theorem dX12_init_11 : decode cX12_init 11 = .ok (.putfield 13, 3) := by decide +kernel
theorem dX12_init_14 : decode cX12_init 14 = .ok (.aload_n 0, 1) := by decide +kernel
theorem dX12_init_15 : decode cX12_init 15 = .ok (.bipush 64, 2) := by decide +kernel
theorem dX12_init_17 : decode cX12_init 17 = .ok (.putfield 16, 3) := by decide +kernel
theorem dX12_init_20 : decode cX12_init 20 = .ok (.aload_n 0, 1) := by decide +kernel
theorem dX12_init_21 : decode cX12_init 21 = .ok (.sipush 4096, 3) := by decide +kernel
theorem dX12_init_24 : decode cX12_init 24 = .ok (.newarray .boolean, 2) := by decide +kernel
theorem dX12_init_26 : decode cX12_init 26 = .ok (.putfield 19, 3) := by decide +kernel
theorem dX12_init_29 : decode cX12_init 29 = .ok (.aload_n 0, 1) := by decide +kernel
theorem dX12_init_30 : decode cX12_init 30 = .ok (.iconst 5, 1) := by decide +kernel
theorem dX12_init_31 : decode cX12_init 31 = .ok (.newarray .int, 2) := by decide +kernel
theorem dX12_init_33 : decode cX12_init 33 = .ok (.putfield 23, 3) := by decide +kernel
theorem dX12_init_36 : decode cX12_init 36 = .ok (.aload_n 0, 1) := by decide +kernel
theorem dX12_init_37 : decode cX12_init 37 = .ok (.bipush 55, 2) := by decide +kernel
theorem dX12_init_39 : decode cX12_init 39 = .ok (.newarray .int, 2) := by decide +kernel
theorem dX12_init_41 : decode cX12_init 41 = .ok (.putfield 27, 3) := by decide +kernel
theorem dX12_init_44 : decode cX12_init 44 = .ok (.aload_n 0, 1) := by decide +kernel
theorem dX12_init_45 : decode cX12_init 45 = .ok (.bipush 11, 2) := by decide +kernel
theorem dX12_init_47 : decode cX12_init 47 = .ok (.newarray .int, 2) := by decide +kernel
theorem dX12_init_49 : decode cX12_init 49 = .ok (.putfield 30, 3) := by decide +kernel
theorem dX12_init_52 : decode cX12_init 52 = .ok (.aload_n 0, 1) := by decide +kernel
theorem dX12_init_53 : decode cX12_init 53 = .ok (.bipush 10, 2) := by decide +kernel
theorem dX12_init_55 : decode cX12_init 55 = .ok (.newarray .int, 2) := by decide +kernel
theorem dX12_init_57 : decode cX12_init 57 = .ok (.putfield 33, 3) := by decide +kernel
theorem dX12_init_60 : decode cX12_init 60 = .ok (.aload_n 0, 1) := by decide +kernel
theorem dX12_init_61 : decode cX12_init 61 = .ok (.iconst (-1), 1) := by decide +kernel
theorem dX12_init_62 : decode cX12_init 62 = .ok (.putfield 36, 3) := by decide +kernel
theorem dX12_init_65 : decode cX12_init 65 = .ok (.aload_n 0, 1) := by decide +kernel
theorem dX12_init_66 : decode cX12_init 66 = .ok (.iconst 5, 1) := by decide +kernel
theorem dX12_init_67 : decode cX12_init 67 = .ok (.newarray .int, 2) := by decide +kernel
theorem dX12_init_69 : decode cX12_init 69 = .ok (.putfield 39, 3) := by decide +kernel
theorem dX12_init_72 : decode cX12_init 72 = .ok (.aload_n 0, 1) := by decide +kernel
theorem dX12_init_73 : decode cX12_init 73 = .ok (.sipush 4096, 3) := by decide +kernel
theorem dX12_init_76 : decode cX12_init 76 = .ok (.newarray .int, 2) := by decide +kernel
theorem dX12_init_78 : decode cX12_init 78 = .ok (.putfield 42, 3) := by decide +kernel
theorem dX12_init_81 : decode cX12_init 81 = .ok (.aload_n 0, 1) := by decide +kernel
theorem dX12_init_82 : decode cX12_init 82 = .ok (.sipush 4096, 3) := by decide +kernel
theorem dX12_init_85 : decode cX12_init 85 = .ok (.newarray .int, 2) := by decide +kernel
theorem dX12_init_87 : decode cX12_init 87 = .ok (.putfield 45, 3) := by decide +kernel
theorem dX12_init_90 : decode cX12_init 90 = .ok (.aload_n 0, 1) := by decide +kernel
theorem dX12_init_91 : decode cX12_init 91 = .ok (.bipush 60, 2) := by decide +kernel
theorem dX12_init_93 : decode cX12_init 93 = .ok (.newarray .int, 2) := by decide +kernel
theorem dX12_init_95 : decode cX12_init 95 = .ok (.putfield 48, 3) := by decide +kernel
theorem dX12_init_98 : decode cX12_init 98 = .ok (.aload_n 0, 1) := by decide +kernel
theorem dX12_init_99 : decode cX12_init 99 = .ok (.iconst 4, 1) := by decide +kernel
theorem dX12_init_100 : decode cX12_init 100 = .ok (.newarray .int, 2) := by decide +kernel
theorem dX12_init_102 : decode cX12_init 102 = .ok (.putfield 51, 3) := by decide +kernel
theorem dX12_init_105 : decode cX12_init 105 = .ok (.aload_n 0, 1) := by decide +kernel
theorem dX12_init_106 : decode cX12_init 106 = .ok (.iconst 5, 1) := by decide +kernel
theorem dX12_init_107 : decode cX12_init 107 = .ok (.newarray .int, 2) := by decide +kernel
theorem dX12_init_109 : decode cX12_init 109 = .ok (.putfield 54, 3) := by decide +kernel
theorem dX12_init_112 : decode cX12_init 112 = .ok (.aload_n 0, 1) := by decide +kernel
theorem dX12_init_113 : decode cX12_init 113 = .ok (.iconst 4, 1) := by decide +kernel
theorem dX12_init_114 : decode cX12_init 114 = .ok (.newarray .int, 2) := by decide +kernel
theorem dX12_init_116 : decode cX12_init 116 = .ok (.putfield 57, 3) := by decide +kernel
theorem dX12_init_119 : decode cX12_init 119 = .ok (.aload_n 0, 1) := by decide +kernel
theorem dX12_init_120 : decode cX12_init 120 = .ok (.sipush 4096, 3) := by decide +kernel
theorem dX12_init_123 : decode cX12_init 123 = .ok (.newarray .boolean, 2) := by decide +kernel
theorem dX12_init_125 : decode cX12_init 125 = .ok (.putfield 60, 3) := by decide +kernel
theorem dX12_init_128 : decode cX12_init 128 = .ok (.aload_n 0, 1) := by decide +kernel
theorem dX12_init_129 : decode cX12_init 129 = .ok (.sipush 1024, 3) := by decide +kernel
theorem dX12_init_132 : decode cX12_init 132 = .ok (.newarray .int, 2) := by decide +kernel
theorem dX12_init_134 : decode cX12_init 134 = .ok (.putfield 63, 3) := by decide +kernel
theorem dX12_init_137 : decode cX12_init 137 = .ok (.aload_n 0, 1) := by decide +kernel
theorem dX12_init_138 : decode cX12_init 138 = .ok (.sipush 1024, 3) := by decide +kernel
theorem dX12_init_141 : decode cX12_init 141 = .ok (.newarray .int, 2) := by decide +kernel
theorem dX12_init_143 : decode cX12_init 143 = .ok (.putfield 66, 3) := by decide +kernel
theorem dX12_init_146 : decode cX12_init 146 = .ok (.aload_n 0, 1) := by decide +kernel
theorem dX12_init_147 : decode cX12_init 147 = .ok (.sipush 11264, 3) := by decide +kernel
theorem dX12_init_150 : decode cX12_init 150 = .ok (.newarray .int, 2) := by decide +kernel
theorem dX12_init_152 : decode cX12_init 152 = .ok (.putfield 69, 3) := by decide +kernel
theorem dX12_init_155 : decode cX12_init 155 = .ok (.aload_n 0, 1) := by decide +kernel
theorem dX12_init_156 : decode cX12_init 156 = .ok (.sipush 11264, 3) := by decide +kernel
theorem dX12_init_159 : decode cX12_init 159 = .ok (.newarray .int, 2) := by decide +kernel
theorem dX12_init_161 : decode cX12_init 161 = .ok (.putfield 72, 3) := by decide +kernel
theorem dX12_init_164 : decode cX12_init 164 = .ok (.aload_n 0, 1) := by decide +kernel
theorem dX12_init_165 : decode cX12_init 165 = .ok (.ldc 75, 2) := by decide +kernel
theorem dX12_init_167 : decode cX12_init 167 = .ok (.newarray .int, 2) := by decide +kernel
theorem dX12_init_169 : decode cX12_init 169 = .ok (.putfield 76, 3) := by decide +kernel
theorem dX12_init_172 : decode cX12_init 172 = .ok (.aload_n 0, 1) := by decide +kernel
theorem dX12_init_173 : decode cX12_init 173 = .ok (.bipush 10, 2) := by decide +kernel
theorem dX12_init_175 : decode cX12_init 175 = .ok (.newarray .int, 2) := by decide +kernel
theorem dX12_init_177 : decode cX12_init 177 = .ok (.putfield 79, 3) := by decide +kernel
theorem dX12_init_180 : decode cX12_init 180 = .ok (.aload_n 0, 1) := by decide +kernel
theorem dX12_init_181 : decode cX12_init 181 = .ok (.bipush 10, 2) := by decide +kernel
theorem dX12_init_183 : decode cX12_init 183 = .ok (.newarray .int, 2) := by decide +kernel
theorem dX12_init_185 : decode cX12_init 185 = .ok (.putfield 82, 3) := by decide +kernel
theorem dX12_init_188 : decode cX12_init 188 = .ok (.aload_n 0, 1) := by decide +kernel
theorem dX12_init_189 : decode cX12_init 189 = .ok (.bipush 40, 2) := by decide +kernel
theorem dX12_init_191 : decode cX12_init 191 = .ok (.newarray .int, 2) := by decide +kernel
theorem dX12_init_193 : decode cX12_init 193 = .ok (.putfield 85, 3) := by decide +kernel
theorem dX12_init_196 : decode cX12_init 196 = .ok (.aload_n 0, 1) := by decide +kernel
theorem dX12_init_197 : decode cX12_init 197 = .ok (.bipush 40, 2) := by decide +kernel
theorem dX12_init_199 : decode cX12_init 199 = .ok (.newarray .int, 2) := by decide +kernel
theorem dX12_init_201 : decode cX12_init 201 = .ok (.putfield 88, 3) := by decide +kernel
theorem dX12_init_204 : decode cX12_init 204 = .ok (.aload_n 0, 1) := by decide +kernel
theorem dX12_init_205 : decode cX12_init 205 = .ok (.bipush 40, 2) := by decide +kernel
theorem dX12_init_207 : decode cX12_init 207 = .ok (.newarray .int, 2) := by decide +kernel
theorem dX12_init_209 : decode cX12_init 209 = .ok (.putfield 91, 3) := by decide +kernel
theorem dX12_init_212 : decode cX12_init 212 = .ok (.aload_n 0, 1) := by decide +kernel
theorem dX12_init_213 : decode cX12_init 213 = .ok (.bipush 40, 2) := by decide +kernel
theorem dX12_init_215 : decode cX12_init 215 = .ok (.newarray .int, 2) := by decide +kernel
theorem dX12_init_217 : decode cX12_init 217 = .ok (.putfield 94, 3) := by decide +kernel
theorem dX12_init_220 : decode cX12_init 220 = .ok (.aload_n 0, 1) := by decide +kernel
theorem dX12_init_221 : decode cX12_init 221 = .ok (.bipush 40, 2) := by decide +kernel
theorem dX12_init_223 : decode cX12_init 223 = .ok (.newarray .int, 2) := by decide +kernel
theorem dX12_init_225 : decode cX12_init 225 = .ok (.putfield 97, 3) := by decide +kernel
theorem dX12_init_228 : decode cX12_init 228 = .ok (.aload_n 0, 1) := by decide +kernel
theorem dX12_init_229 : decode cX12_init 229 = .ok (.sipush 600, 3) := by decide +kernel
theorem dX12_init_232 : decode cX12_init 232 = .ok (.newarray .int, 2) := by decide +kernel
theorem dX12_init_234 : decode cX12_init 234 = .ok (.putfield 100, 3) := by decide +kernel
theorem dX12_init_237 : decode cX12_init 237 = .ok (.aload_n 0, 1) := by decide +kernel
theorem dX12_init_238 : decode cX12_init 238 = .ok (.sipush 600, 3) := by decide +kernel
theorem dX12_init_241 : decode cX12_init 241 = .ok (.newarray .int, 2) := by decide +kernel
theorem dX12_init_243 : decode cX12_init 243 = .ok (.putfield 103, 3) := by decide +kernel
theorem dX12_init_246 : decode cX12_init 246 = .ok (.aload_n 0, 1) := by decide +kernel
theorem dX12_init_247 : decode cX12_init 247 = .ok (.sipush 600, 3) := by decide +kernel
theorem dX12_init_250 : decode cX12_init 250 = .ok (.newarray .int, 2) := by decide +kernel
theorem dX12_init_252 : decode cX12_init 252 = .ok (.putfield 106, 3) := by decide +kernel
theorem dX12_init_255 : decode cX12_init 255 = .ok (.aload_n 0, 1) := by decide +kernel
theorem dX12_init_256 : decode cX12_init 256 = .ok (.sipush 600, 3) := by decide +kernel
theorem dX12_init_259 : decode cX12_init 259 = .ok (.newarray .int, 2) := by decide +kernel
theorem dX12_init_261 : decode cX12_init 261 = .ok (.putfield 109, 3) := by decide +kernel
theorem dX12_init_264 : decode cX12_init 264 = .ok (.aload_n 0, 1) := by decide +kernel
theorem dX12_init_265 : decode cX12_init 265 = .ok (.bipush 40, 2) := by decide +kernel
theorem dX12_init_267 : decode cX12_init 267 = .ok (.newarray .int, 2) := by decide +kernel
theorem dX12_init_269 : decode cX12_init 269 = .ok (.putfield 112, 3) := by decide +kernel
theorem dX12_init_272 : decode cX12_init 272 = .ok (.aload_n 0, 1) := by decide +kernel
theorem dX12_init_273 : decode cX12_init 273 = .ok (.bipush 40, 2) := by decide +kernel
theorem dX12_init_275 : decode cX12_init 275 = .ok (.newarray .int, 2) := by decide +kernel
theorem dX12_init_277 : decode cX12_init 277 = .ok (.putfield 115, 3) := by decide +kernel
theorem dX12_init_280 : decode cX12_init 280 = .ok (.aload_n 0, 1) := by decide +kernel
theorem dX12_init_281 : decode cX12_init 281 = .ok (.bipush 40, 2) := by decide +kernel
theorem dX12_init_283 : decode cX12_init 283 = .ok (.newarray .int, 2) := by decide +kernel
theorem dX12_init_285 : decode cX12_init 285 = .ok (.putfield 118, 3) := by decide +kernel
theorem dX12_init_288 : decode cX12_init 288 = .ok (.aload_n 0, 1) := by decide +kernel
theorem dX12_init_289 : decode cX12_init 289 = .ok (.bipush 60, 2) := by decide +kernel
theorem dX12_init_291 : decode cX12_init 291 = .ok (.newarray .int, 2) := by decide +kernel
theorem dX12_init_293 : decode cX12_init 293 = .ok (.putfield 121, 3) := by decide +kernel
theorem dX12_init_296 : decode cX12_init 296 = .ok (.aload_n 0, 1) := by decide +kernel
theorem dX12_init_297 : decode cX12_init 297 = .ok (.bipush 6, 2) := by decide +kernel
theorem dX12_init_299 : decode cX12_init 299 = .ok (.newarray .int, 2) := by decide +kernel
theorem dX12_init_301 : decode cX12_init 301 = .ok (.putfield 124, 3) := by decide +kernel
theorem dX12_init_304 : decode cX12_init 304 = .ok (.aload_n 0, 1) := by decide +kernel
theorem dX12_init_305 : decode cX12_init 305 = .ok (.bipush 6, 2) := by decide +kernel
theorem dX12_init_307 : decode cX12_init 307 = .ok (.newarray .int, 2) := by decide +kernel
theorem dX12_init_309 : decode cX12_init 309 = .ok (.putfield 127, 3) := by decide +kernel
theorem dX12_init_312 : decode cX12_init 312 = .ok (.aload_n 0, 1) := by decide +kernel
theorem dX12_init_313 : decode cX12_init 313 = .ok (.sipush 360, 3) := by decide +kernel
theorem dX12_init_316 : decode cX12_init 316 = .ok (.newarray .int, 2) := by decide +kernel
theorem dX12_init_318 : decode cX12_init 318 = .ok (.putfield 130, 3) := by decide +kernel
theorem dX12_init_321 : decode cX12_init 321 = .ok (.aload_n 0, 1) := by decide +kernel
theorem dX12_init_322 : decode cX12_init 322 = .ok (.bipush 6, 2) := by decide +kernel
theorem dX12_init_324 : decode cX12_init 324 = .ok (.newarray .int, 2) := by decide +kernel
theorem dX12_init_326 : decode cX12_init 326 = .ok (.putfield 133, 3) := by decide +kernel
theorem dX12_init_329 : decode cX12_init 329 = .ok (.aload_n 0, 1) := by decide +kernel
theorem dX12_init_330 : decode cX12_init 330 = .ok (.bipush 60, 2) := by decide +kernel
theorem dX12_init_332 : decode cX12_init 332 = .ok (.newarray .int, 2) := by decide +kernel
theorem dX12_init_334 : decode cX12_init 334 = .ok (.putfield 136, 3) := by decide +kernel
theorem dX12_init_337 : decode cX12_init 337 = .ok (.iconst 0, 1) := by decide +kernel
theorem dX12_init_338 : decode cX12_init 338 = .ok (.istore_n 1, 1) := by decide +kernel
theorem dX12_init_339 : decode cX12_init 339 = .ok (.iload_n 1, 1) := by decide +kernel
theorem dX12_init_340 : decode cX12_init 340 = .ok (.iconst 5, 1) := by decide +kernel
theorem dX12_init_341 : decode cX12_init 341 = .ok (.if_icmp .ge 16, 3) := by decide +kernel
theorem dX12_init_344 : decode cX12_init 344 = .ok (.aload_n 0, 1) := by decide +kernel
theorem dX12_init_345 : decode cX12_init 345 = .ok (.getfield 23, 3) := by decide +kernel
theorem dX12_init_348 : decode cX12_init 348 = .ok (.iload_n 1, 1) := by decide +kernel
theorem dX12_init_349 : decode cX12_init 349 = .ok (.iconst (-1), 1) := by decide +kernel
theorem dX12_init_350 : decode cX12_init 350 = .ok (.iastore, 1) := by decide +kernel
theorem dX12_init_351 : decode cX12_init 351 = .ok (.iinc 1 1, 3) := by decide +kernel
theorem dX12_init_354 : decode cX12_init 354 = .ok (.goto (-15), 3) := by decide +kernel
theorem dX12_init_357 : decode cX12_init 357 = .ok (.return_, 1) := by decide +kernel
theorem dX12_thrown_0 : decode cX12_thrown 0 = .ok (.aload_n 0, 1) := by decide +kernel
theorem dX12_thrown_1 : decode cX12_thrown 1 = .ok (.getfield 139, 3) := by decide +kernel
theorem dX12_thrown_4 : decode cX12_thrown 4 = .ok (.ireturn, 1) := by decide +kernel
theorem dX12_in_0 : decode cX12_in 0 = .ok (.iload_n 0, 1) := by decide +kernel
theorem dX12_in_1 : decode cX12_in 1 = .ok (.iload_n 1, 1) := by decide +kernel
theorem dX12_in_2 : decode cX12_in 2 = .ok (.if_icmp .lt 12, 3) := by decide +kernel
theorem dX12_in_5 : decode cX12_in 5 = .ok (.iload_n 0, 1) := by decide +kernel
theorem dX12_in_6 : decode cX12_in 6 = .ok (.iload_n 2, 1) := by decide +kernel
theorem dX12_in_7 : decode cX12_in 7 = .ok (.if_icmp .gt 7, 3) := by decide +kernel
theorem dX12_in_10 : decode cX12_in 10 = .ok (.iconst 1, 1) := by decide +kernel
theorem dX12_in_11 : decode cX12_in 11 = .ok (.goto 4, 3) := by decide +kernel
theorem dX12_in_14 : decode cX12_in 14 = .ok (.iconst 0, 1) := by decide +kernel
theorem dX12_in_15 : decode cX12_in 15 = .ok (.ireturn, 1) := by decide +kernel
theorem dX12_isCode_0 : decode cX12_isCode 0 = .ok (.iload_n 1, 1) := by decide +kernel
theorem dX12_isCode_1 : decode cX12_isCode 1 = .ok (.iconst 0, 1) := by decide +kernel
theorem dX12_isCode_2 : decode cX12_isCode 2 = .ok (.aload_n 0, 1) := by decide +kernel
theorem dX12_isCode_3 : decode cX12_isCode 3 = .ok (.getfield 16, 3) := by decide +kernel
theorem dX12_isCode_6 : decode cX12_isCode 6 = .ok (.iconst 1, 1) := by decide +kernel
theorem dX12_isCode_7 : decode cX12_isCode 7 = .ok (.isub, 1) := by decide +kernel
theorem dX12_isCode_8 : decode cX12_isCode 8 = .ok (.invokestatic 142, 3) := by decide +kernel
theorem dX12_isCode_11 : decode cX12_isCode 11 = .ok (.ireturn, 1) := by decide +kernel
theorem dX12_peg0_0 : decode cX12_peg0 0 = .ok (.iload_n 1, 1) := by decide +kernel
theorem dX12_peg0_1 : decode cX12_peg0 1 = .ok (.istore_n 3, 1) := by decide +kernel
theorem dX12_peg0_2 : decode cX12_peg0 2 = .ok (.aload_n 0, 1) := by decide +kernel
theorem dX12_peg0_3 : decode cX12_peg0 3 = .ok (.getfield 7, 3) := by decide +kernel
theorem dX12_peg0_6 : decode cX12_peg0 6 = .ok (.iconst 1, 1) := by decide +kernel
theorem dX12_peg0_7 : decode cX12_peg0 7 = .ok (.isub, 1) := by decide +kernel
theorem dX12_peg0_8 : decode cX12_peg0 8 = .ok (.istore 4, 2) := by decide +kernel
theorem dX12_peg0_10 : decode cX12_peg0 10 = .ok (.iload 4, 2) := by decide +kernel
theorem dX12_peg0_12 : decode cX12_peg0 12 = .ok (.iload_n 2, 1) := by decide +kernel
theorem dX12_peg0_13 : decode cX12_peg0 13 = .ok (.if_icmp .le 16, 3) := by decide +kernel
theorem dX12_peg0_16 : decode cX12_peg0 16 = .ok (.iload_n 3, 1) := by decide +kernel
theorem dX12_peg0_17 : decode cX12_peg0 17 = .ok (.aload_n 0, 1) := by decide +kernel
theorem dX12_peg0_18 : decode cX12_peg0 18 = .ok (.getfield 13, 3) := by decide +kernel
theorem dX12_peg0_21 : decode cX12_peg0 21 = .ok (.idiv, 1) := by decide +kernel
theorem dX12_peg0_22 : decode cX12_peg0 22 = .ok (.istore_n 3, 1) := by decide +kernel
theorem dX12_peg0_23 : decode cX12_peg0 23 = .ok (.iinc 4 (-1), 3) := by decide +kernel
theorem dX12_peg0_26 : decode cX12_peg0 26 = .ok (.goto (-16), 3) := by decide +kernel
theorem dX12_peg0_29 : decode cX12_peg0 29 = .ok (.iload_n 3, 1) := by decide +kernel
theorem dX12_peg0_30 : decode cX12_peg0 30 = .ok (.aload_n 0, 1) := by decide +kernel
theorem dX12_peg0_31 : decode cX12_peg0 31 = .ok (.getfield 13, 3) := by decide +kernel
theorem dX12_peg0_34 : decode cX12_peg0 34 = .ok (.irem, 1) := by decide +kernel
theorem dX12_peg0_35 : decode cX12_peg0 35 = .ok (.ireturn, 1) := by decide +kernel
theorem dX12_guessCode_0 : decode cX12_guessCode 0 = .ok (.iconst 0, 1) := by decide +kernel
theorem dX12_guessCode_1 : decode cX12_guessCode 1 = .ok (.istore_n 2, 1) := by decide +kernel
theorem dX12_guessCode_2 : decode cX12_guessCode 2 = .ok (.iload_n 2, 1) := by decide +kernel
theorem dX12_guessCode_3 : decode cX12_guessCode 3 = .ok (.aload_n 0, 1) := by decide +kernel
theorem dX12_guessCode_4 : decode cX12_guessCode 4 = .ok (.getfield 7, 3) := by decide +kernel
theorem dX12_guessCode_7 : decode cX12_guessCode 7 = .ok (.if_icmp .ge 21, 3) := by decide +kernel
theorem dX12_guessCode_10 : decode cX12_guessCode 10 = .ok (.aload_n 0, 1) := by decide +kernel
theorem dX12_guessCode_11 : decode cX12_guessCode 11 = .ok (.getfield 39, 3) := by decide +kernel
theorem dX12_guessCode_14 : decode cX12_guessCode 14 = .ok (.iload_n 2, 1) := by decide +kernel
theorem dX12_guessCode_15 : decode cX12_guessCode 15 = .ok (.aload_n 0, 1) := by decide +kernel
theorem dX12_guessCode_16 : decode cX12_guessCode 16 = .ok (.iload_n 1, 1) := by decide +kernel
theorem dX12_guessCode_17 : decode cX12_guessCode 17 = .ok (.iload_n 2, 1) := by decide +kernel
theorem dX12_guessCode_18 : decode cX12_guessCode 18 = .ok (.invokevirtual 146, 3) := by decide +kernel
theorem dX12_guessCode_21 : decode cX12_guessCode 21 = .ok (.iastore, 1) := by decide +kernel
theorem dX12_guessCode_22 : decode cX12_guessCode 22 = .ok (.iinc 2 1, 3) := by decide +kernel
theorem dX12_guessCode_25 : decode cX12_guessCode 25 = .ok (.goto (-23), 3) := by decide +kernel
theorem dX12_guessCode_28 : decode cX12_guessCode 28 = .ok (.return_, 1) := by decide +kernel
theorem dX12_guessHand_0 : decode cX12_guessHand 0 = .ok (.iconst 0, 1) := by decide +kernel
theorem dX12_guessHand_1 : decode cX12_guessHand 1 = .ok (.istore_n 1, 1) := by decide +kernel
theorem dX12_guessHand_2 : decode cX12_guessHand 2 = .ok (.iload_n 1, 1) := by decide +kernel
theorem dX12_guessHand_3 : decode cX12_guessHand 3 = .ok (.aload_n 0, 1) := by decide +kernel
theorem dX12_guessHand_4 : decode cX12_guessHand 4 = .ok (.getfield 7, 3) := by decide +kernel
theorem dX12_guessHand_7 : decode cX12_guessHand 7 = .ok (.if_icmp .ge 21, 3) := by decide +kernel
theorem dX12_guessHand_10 : decode cX12_guessHand 10 = .ok (.aload_n 0, 1) := by decide +kernel
theorem dX12_guessHand_11 : decode cX12_guessHand 11 = .ok (.getfield 39, 3) := by decide +kernel
theorem dX12_guessHand_14 : decode cX12_guessHand 14 = .ok (.iload_n 1, 1) := by decide +kernel
theorem dX12_guessHand_15 : decode cX12_guessHand 15 = .ok (.aload_n 0, 1) := by decide +kernel
theorem dX12_guessHand_16 : decode cX12_guessHand 16 = .ok (.getfield 23, 3) := by decide +kernel
theorem dX12_guessHand_19 : decode cX12_guessHand 19 = .ok (.iload_n 1, 1) := by decide +kernel
theorem dX12_guessHand_20 : decode cX12_guessHand 20 = .ok (.iaload, 1) := by decide +kernel
theorem dX12_guessHand_21 : decode cX12_guessHand 21 = .ok (.iastore, 1) := by decide +kernel
theorem dX12_guessHand_22 : decode cX12_guessHand 22 = .ok (.iinc 1 1, 3) := by decide +kernel
theorem dX12_guessHand_25 : decode cX12_guessHand 25 = .ok (.goto (-23), 3) := by decide +kernel
theorem dX12_guessHand_28 : decode cX12_guessHand 28 = .ok (.return_, 1) := by decide +kernel
theorem dX12_guessTurn_0 : decode cX12_guessTurn 0 = .ok (.iconst 0, 1) := by decide +kernel
theorem dX12_guessTurn_1 : decode cX12_guessTurn 1 = .ok (.istore_n 2, 1) := by decide +kernel
theorem dX12_guessTurn_2 : decode cX12_guessTurn 2 = .ok (.iload_n 2, 1) := by decide +kernel
theorem dX12_guessTurn_3 : decode cX12_guessTurn 3 = .ok (.aload_n 0, 1) := by decide +kernel
theorem dX12_guessTurn_4 : decode cX12_guessTurn 4 = .ok (.getfield 7, 3) := by decide +kernel
theorem dX12_guessTurn_7 : decode cX12_guessTurn 7 = .ok (.if_icmp .ge 25, 3) := by decide +kernel
theorem dX12_guessTurn_10 : decode cX12_guessTurn 10 = .ok (.aload_n 0, 1) := by decide +kernel
theorem dX12_guessTurn_11 : decode cX12_guessTurn 11 = .ok (.getfield 39, 3) := by decide +kernel
theorem dX12_guessTurn_14 : decode cX12_guessTurn 14 = .ok (.iload_n 2, 1) := by decide +kernel
theorem dX12_guessTurn_15 : decode cX12_guessTurn 15 = .ok (.aload_n 0, 1) := by decide +kernel
theorem dX12_guessTurn_16 : decode cX12_guessTurn 16 = .ok (.getfield 27, 3) := by decide +kernel
theorem dX12_guessTurn_19 : decode cX12_guessTurn 19 = .ok (.iconst 5, 1) := by decide +kernel
theorem dX12_guessTurn_20 : decode cX12_guessTurn 20 = .ok (.iload_n 1, 1) := by decide +kernel
theorem dX12_guessTurn_21 : decode cX12_guessTurn 21 = .ok (.imul, 1) := by decide +kernel
theorem dX12_guessTurn_22 : decode cX12_guessTurn 22 = .ok (.iload_n 2, 1) := by decide +kernel
theorem dX12_guessTurn_23 : decode cX12_guessTurn 23 = .ok (.iadd, 1) := by decide +kernel
theorem dX12_guessTurn_24 : decode cX12_guessTurn 24 = .ok (.iaload, 1) := by decide +kernel
theorem dX12_guessTurn_25 : decode cX12_guessTurn 25 = .ok (.iastore, 1) := by decide +kernel
theorem dX12_guessTurn_26 : decode cX12_guessTurn 26 = .ok (.iinc 2 1, 3) := by decide +kernel
theorem dX12_guessTurn_29 : decode cX12_guessTurn 29 = .ok (.goto (-27), 3) := by decide +kernel
theorem dX12_guessTurn_32 : decode cX12_guessTurn 32 = .ok (.return_, 1) := by decide +kernel
theorem dX12_answers_0 : decode cX12_answers 0 = .ok (.iconst 0, 1) := by decide +kernel
theorem dX12_answers_1 : decode cX12_answers 1 = .ok (.istore_n 2, 1) := by decide +kernel
theorem dX12_answers_2 : decode cX12_answers 2 = .ok (.iconst 0, 1) := by decide +kernel
theorem dX12_answers_3 : decode cX12_answers 3 = .ok (.istore_n 3, 1) := by decide +kernel
theorem dX12_answers_4 : decode cX12_answers 4 = .ok (.iconst 0, 1) := by decide +kernel
theorem dX12_answers_5 : decode cX12_answers 5 = .ok (.istore 4, 2) := by decide +kernel
theorem dX12_answers_7 : decode cX12_answers 7 = .ok (.iload 4, 2) := by decide +kernel
theorem dX12_answers_9 : decode cX12_answers 9 = .ok (.aload_n 0, 1) := by decide +kernel
theorem dX12_answers_10 : decode cX12_answers 10 = .ok (.getfield 7, 3) := by decide +kernel
theorem dX12_answers_13 : decode cX12_answers 13 = .ok (.if_icmp .ge 34, 3) := by decide +kernel
theorem dX12_answers_16 : decode cX12_answers 16 = .ok (.iload_n 2, 1) := by decide +kernel
theorem dX12_answers_17 : decode cX12_answers 17 = .ok (.aload_n 0, 1) := by decide +kernel
theorem dX12_answers_18 : decode cX12_answers 18 = .ok (.getfield 39, 3) := by decide +kernel
theorem dX12_answers_21 : decode cX12_answers 21 = .ok (.iload 4, 2) := by decide +kernel
theorem dX12_answers_23 : decode cX12_answers 23 = .ok (.iaload, 1) := by decide +kernel
theorem dX12_answers_24 : decode cX12_answers 24 = .ok (.aload_n 0, 1) := by decide +kernel
theorem dX12_answers_25 : decode cX12_answers 25 = .ok (.iload_n 1, 1) := by decide +kernel
theorem dX12_answers_26 : decode cX12_answers 26 = .ok (.iload 4, 2) := by decide +kernel
theorem dX12_answers_28 : decode cX12_answers 28 = .ok (.invokevirtual 146, 3) := by decide +kernel
theorem dX12_answers_31 : decode cX12_answers 31 = .ok (.if_icmp .ne 7, 3) := by decide +kernel
theorem dX12_answers_34 : decode cX12_answers 34 = .ok (.iconst 1, 1) := by decide +kernel
theorem dX12_answers_35 : decode cX12_answers 35 = .ok (.goto 4, 3) := by decide +kernel
theorem dX12_answers_38 : decode cX12_answers 38 = .ok (.iconst 0, 1) := by decide +kernel
theorem dX12_answers_39 : decode cX12_answers 39 = .ok (.iadd, 1) := by decide +kernel
theorem dX12_answers_40 : decode cX12_answers 40 = .ok (.istore_n 2, 1) := by decide +kernel
theorem dX12_answers_41 : decode cX12_answers 41 = .ok (.iinc 4 1, 3) := by decide +kernel
theorem dX12_answers_44 : decode cX12_answers 44 = .ok (.goto (-37), 3) := by decide +kernel
theorem dX12_answers_47 : decode cX12_answers 47 = .ok (.iconst 0, 1) := by decide +kernel
theorem dX12_answers_48 : decode cX12_answers 48 = .ok (.istore 4, 2) := by decide +kernel
theorem dX12_answers_50 : decode cX12_answers 50 = .ok (.iload 4, 2) := by decide +kernel
theorem dX12_answers_52 : decode cX12_answers 52 = .ok (.aload_n 0, 1) := by decide +kernel
theorem dX12_answers_53 : decode cX12_answers 53 = .ok (.getfield 13, 3) := by decide +kernel
theorem dX12_answers_56 : decode cX12_answers 56 = .ok (.if_icmp .ge 94, 3) := by decide +kernel
theorem dX12_answers_59 : decode cX12_answers 59 = .ok (.iconst 0, 1) := by decide +kernel
theorem dX12_answers_60 : decode cX12_answers 60 = .ok (.istore 5, 2) := by decide +kernel
theorem dX12_answers_62 : decode cX12_answers 62 = .ok (.iconst 0, 1) := by decide +kernel
theorem dX12_answers_63 : decode cX12_answers 63 = .ok (.istore 6, 2) := by decide +kernel
theorem dX12_answers_65 : decode cX12_answers 65 = .ok (.iconst 0, 1) := by decide +kernel
theorem dX12_answers_66 : decode cX12_answers 66 = .ok (.istore 7, 2) := by decide +kernel
theorem dX12_answers_68 : decode cX12_answers 68 = .ok (.iload 7, 2) := by decide +kernel
theorem dX12_answers_70 : decode cX12_answers 70 = .ok (.aload_n 0, 1) := by decide +kernel
theorem dX12_answers_71 : decode cX12_answers 71 = .ok (.getfield 7, 3) := by decide +kernel
theorem dX12_answers_74 : decode cX12_answers 74 = .ok (.if_icmp .ge 53, 3) := by decide +kernel
theorem dX12_answers_77 : decode cX12_answers 77 = .ok (.iload 5, 2) := by decide +kernel
theorem dX12_answers_79 : decode cX12_answers 79 = .ok (.aload_n 0, 1) := by decide +kernel
theorem dX12_answers_80 : decode cX12_answers 80 = .ok (.getfield 39, 3) := by decide +kernel
theorem dX12_answers_83 : decode cX12_answers 83 = .ok (.iload 7, 2) := by decide +kernel
theorem dX12_answers_85 : decode cX12_answers 85 = .ok (.iaload, 1) := by decide +kernel
theorem dX12_answers_86 : decode cX12_answers 86 = .ok (.iload 4, 2) := by decide +kernel
theorem dX12_answers_88 : decode cX12_answers 88 = .ok (.if_icmp .ne 7, 3) := by decide +kernel
theorem dX12_answers_91 : decode cX12_answers 91 = .ok (.iconst 1, 1) := by decide +kernel
theorem dX12_answers_92 : decode cX12_answers 92 = .ok (.goto 4, 3) := by decide +kernel
theorem dX12_answers_95 : decode cX12_answers 95 = .ok (.iconst 0, 1) := by decide +kernel
theorem dX12_answers_96 : decode cX12_answers 96 = .ok (.iadd, 1) := by decide +kernel
theorem dX12_answers_97 : decode cX12_answers 97 = .ok (.istore 5, 2) := by decide +kernel
theorem dX12_answers_99 : decode cX12_answers 99 = .ok (.iload 6, 2) := by decide +kernel
theorem dX12_answers_101 : decode cX12_answers 101 = .ok (.aload_n 0, 1) := by decide +kernel
theorem dX12_answers_102 : decode cX12_answers 102 = .ok (.iload_n 1, 1) := by decide +kernel
theorem dX12_answers_103 : decode cX12_answers 103 = .ok (.iload 7, 2) := by decide +kernel
theorem dX12_answers_105 : decode cX12_answers 105 = .ok (.invokevirtual 146, 3) := by decide +kernel
theorem dX12_answers_108 : decode cX12_answers 108 = .ok (.iload 4, 2) := by decide +kernel
theorem dX12_answers_110 : decode cX12_answers 110 = .ok (.if_icmp .ne 7, 3) := by decide +kernel
theorem dX12_answers_113 : decode cX12_answers 113 = .ok (.iconst 1, 1) := by decide +kernel
theorem dX12_answers_114 : decode cX12_answers 114 = .ok (.goto 4, 3) := by decide +kernel
theorem dX12_answers_117 : decode cX12_answers 117 = .ok (.iconst 0, 1) := by decide +kernel
theorem dX12_answers_118 : decode cX12_answers 118 = .ok (.iadd, 1) := by decide +kernel
theorem dX12_answers_119 : decode cX12_answers 119 = .ok (.istore 6, 2) := by decide +kernel
theorem dX12_answers_121 : decode cX12_answers 121 = .ok (.iinc 7 1, 3) := by decide +kernel
theorem dX12_answers_124 : decode cX12_answers 124 = .ok (.goto (-56), 3) := by decide +kernel
theorem dX12_answers_127 : decode cX12_answers 127 = .ok (.iload_n 3, 1) := by decide +kernel
theorem dX12_answers_128 : decode cX12_answers 128 = .ok (.iload 5, 2) := by decide +kernel
theorem dX12_answers_130 : decode cX12_answers 130 = .ok (.iload 6, 2) := by decide +kernel
theorem dX12_answers_132 : decode cX12_answers 132 = .ok (.if_icmp .ge 8, 3) := by decide +kernel
theorem dX12_answers_135 : decode cX12_answers 135 = .ok (.iload 5, 2) := by decide +kernel
theorem dX12_answers_137 : decode cX12_answers 137 = .ok (.goto 5, 3) := by decide +kernel
theorem dX12_answers_140 : decode cX12_answers 140 = .ok (.iload 6, 2) := by decide +kernel
theorem dX12_answers_142 : decode cX12_answers 142 = .ok (.iadd, 1) := by decide +kernel
theorem dX12_answers_143 : decode cX12_answers 143 = .ok (.istore_n 3, 1) := by decide +kernel
theorem dX12_answers_144 : decode cX12_answers 144 = .ok (.iinc 4 1, 3) := by decide +kernel
theorem dX12_answers_147 : decode cX12_answers 147 = .ok (.goto (-97), 3) := by decide +kernel
theorem dX12_answers_150 : decode cX12_answers 150 = .ok (.bipush 10, 2) := by decide +kernel
theorem dX12_answers_152 : decode cX12_answers 152 = .ok (.iload_n 2, 1) := by decide +kernel
theorem dX12_answers_153 : decode cX12_answers 153 = .ok (.imul, 1) := by decide +kernel
theorem dX12_answers_154 : decode cX12_answers 154 = .ok (.iload_n 3, 1) := by decide +kernel
theorem dX12_answers_155 : decode cX12_answers 155 = .ok (.iadd, 1) := by decide +kernel
theorem dX12_answers_156 : decode cX12_answers 156 = .ok (.iload_n 2, 1) := by decide +kernel
theorem dX12_answers_157 : decode cX12_answers 157 = .ok (.isub, 1) := by decide +kernel
theorem dX12_answers_158 : decode cX12_answers 158 = .ok (.ireturn, 1) := by decide +kernel
theorem dX12_mayAnswer_0 : decode cX12_mayAnswer 0 = .ok (.iload_n 1, 1) := by decide +kernel
theorem dX12_mayAnswer_1 : decode cX12_mayAnswer 1 = .ok (.ifCond .lt 23, 3) := by decide +kernel
theorem dX12_mayAnswer_4 : decode cX12_mayAnswer 4 = .ok (.iload_n 1, 1) := by decide +kernel
theorem dX12_mayAnswer_5 : decode cX12_mayAnswer 5 = .ok (.bipush 10, 2) := by decide +kernel
theorem dX12_mayAnswer_7 : decode cX12_mayAnswer 7 = .ok (.idiv, 1) := by decide +kernel
theorem dX12_mayAnswer_8 : decode cX12_mayAnswer 8 = .ok (.iload_n 1, 1) := by decide +kernel
theorem dX12_mayAnswer_9 : decode cX12_mayAnswer 9 = .ok (.bipush 10, 2) := by decide +kernel
theorem dX12_mayAnswer_11 : decode cX12_mayAnswer 11 = .ok (.irem, 1) := by decide +kernel
theorem dX12_mayAnswer_12 : decode cX12_mayAnswer 12 = .ok (.iadd, 1) := by decide +kernel
theorem dX12_mayAnswer_13 : decode cX12_mayAnswer 13 = .ok (.aload_n 0, 1) := by decide +kernel
theorem dX12_mayAnswer_14 : decode cX12_mayAnswer 14 = .ok (.getfield 7, 3) := by decide +kernel
theorem dX12_mayAnswer_17 : decode cX12_mayAnswer 17 = .ok (.if_icmp .gt 7, 3) := by decide +kernel
theorem dX12_mayAnswer_20 : decode cX12_mayAnswer 20 = .ok (.iconst 1, 1) := by decide +kernel
theorem dX12_mayAnswer_21 : decode cX12_mayAnswer 21 = .ok (.goto 4, 3) := by decide +kernel
theorem dX12_mayAnswer_24 : decode cX12_mayAnswer 24 = .ok (.iconst 0, 1) := by decide +kernel
theorem dX12_mayAnswer_25 : decode cX12_mayAnswer 25 = .ok (.ireturn, 1) := by decide +kernel
theorem dX12_isAllowed_0 : decode cX12_isAllowed 0 = .ok (.aload_n 0, 1) := by decide +kernel
theorem dX12_isAllowed_1 : decode cX12_isAllowed 1 = .ok (.getfield 150, 3) := by decide +kernel
theorem dX12_isAllowed_4 : decode cX12_isAllowed 4 = .ok (.ifCond .ne 5, 3) := by decide +kernel
theorem dX12_isAllowed_7 : decode cX12_isAllowed 7 = .ok (.iconst 1, 1) := by decide +kernel
theorem dX12_isAllowed_8 : decode cX12_isAllowed 8 = .ok (.ireturn, 1) := by decide +kernel
theorem dX12_isAllowed_9 : decode cX12_isAllowed 9 = .ok (.aload_n 0, 1) := by decide +kernel
theorem dX12_isAllowed_10 : decode cX12_isAllowed 10 = .ok (.getfield 150, 3) := by decide +kernel
theorem dX12_isAllowed_13 : decode cX12_isAllowed 13 = .ok (.iconst 3, 1) := by decide +kernel
theorem dX12_isAllowed_14 : decode cX12_isAllowed 14 = .ok (.if_icmp .ne 10, 3) := by decide +kernel
theorem dX12_isAllowed_17 : decode cX12_isAllowed 17 = .ok (.aload_n 0, 1) := by decide +kernel
theorem dX12_isAllowed_18 : decode cX12_isAllowed 18 = .ok (.getfield 19, 3) := by decide +kernel
theorem dX12_isAllowed_21 : decode cX12_isAllowed 21 = .ok (.iload_n 1, 1) := by decide +kernel
theorem dX12_isAllowed_22 : decode cX12_isAllowed 22 = .ok (.baload, 1) := by decide +kernel
theorem dX12_isAllowed_23 : decode cX12_isAllowed 23 = .ok (.ireturn, 1) := by decide +kernel
theorem dX12_isAllowed_24 : decode cX12_isAllowed 24 = .ok (.lconst 0, 1) := by decide +kernel
theorem dX12_isAllowed_25 : decode cX12_isAllowed 25 = .ok (.lstore_n 2, 1) := by decide +kernel
theorem dX12_isAllowed_26 : decode cX12_isAllowed 26 = .ok (.iconst 0, 1) := by decide +kernel
theorem dX12_isAllowed_27 : decode cX12_isAllowed 27 = .ok (.istore 4, 2) := by decide +kernel
theorem dX12_isAllowed_29 : decode cX12_isAllowed 29 = .ok (.iconst 0, 1) := by decide +kernel
theorem dX12_isAllowed_30 : decode cX12_isAllowed 30 = .ok (.istore 5, 2) := by decide +kernel
theorem dX12_isAllowed_32 : decode cX12_isAllowed 32 = .ok (.iload 5, 2) := by decide +kernel
theorem dX12_isAllowed_34 : decode cX12_isAllowed 34 = .ok (.aload_n 0, 1) := by decide +kernel
theorem dX12_isAllowed_35 : decode cX12_isAllowed 35 = .ok (.getfield 7, 3) := by decide +kernel
theorem dX12_isAllowed_38 : decode cX12_isAllowed 38 = .ok (.if_icmp .ge 65, 3) := by decide +kernel
theorem dX12_isAllowed_41 : decode cX12_isAllowed 41 = .ok (.lload_n 2, 1) := by decide +kernel
theorem dX12_isAllowed_42 : decode cX12_isAllowed 42 = .ok (.aload_n 0, 1) := by decide +kernel
theorem dX12_isAllowed_43 : decode cX12_isAllowed 43 = .ok (.iload_n 1, 1) := by decide +kernel
theorem dX12_isAllowed_44 : decode cX12_isAllowed 44 = .ok (.iload 5, 2) := by decide +kernel
theorem dX12_isAllowed_46 : decode cX12_isAllowed 46 = .ok (.invokevirtual 146, 3) := by decide +kernel
theorem dX12_isAllowed_49 : decode cX12_isAllowed 49 = .ok (.i2l, 1) := by decide +kernel
theorem dX12_isAllowed_50 : decode cX12_isAllowed 50 = .ok (.ladd, 1) := by decide +kernel
theorem dX12_isAllowed_51 : decode cX12_isAllowed 51 = .ok (.lstore_n 2, 1) := by decide +kernel
theorem dX12_isAllowed_52 : decode cX12_isAllowed 52 = .ok (.iconst 0, 1) := by decide +kernel
theorem dX12_isAllowed_53 : decode cX12_isAllowed 53 = .ok (.istore 6, 2) := by decide +kernel
theorem dX12_isAllowed_55 : decode cX12_isAllowed 55 = .ok (.iload 6, 2) := by decide +kernel
theorem dX12_isAllowed_57 : decode cX12_isAllowed 57 = .ok (.iload 5, 2) := by decide +kernel
theorem dX12_isAllowed_59 : decode cX12_isAllowed 59 = .ok (.if_icmp .ge 38, 3) := by decide +kernel
theorem dX12_isAllowed_62 : decode cX12_isAllowed 62 = .ok (.iload 4, 2) := by decide +kernel
theorem dX12_isAllowed_64 : decode cX12_isAllowed 64 = .ok (.ifCond .ne 20, 3) := by decide +kernel
theorem dX12_isAllowed_67 : decode cX12_isAllowed 67 = .ok (.aload_n 0, 1) := by decide +kernel
theorem dX12_isAllowed_68 : decode cX12_isAllowed 68 = .ok (.iload_n 1, 1) := by decide +kernel
theorem dX12_isAllowed_69 : decode cX12_isAllowed 69 = .ok (.iload 5, 2) := by decide +kernel
theorem dX12_isAllowed_71 : decode cX12_isAllowed 71 = .ok (.invokevirtual 146, 3) := by decide +kernel
theorem dX12_isAllowed_74 : decode cX12_isAllowed 74 = .ok (.aload_n 0, 1) := by decide +kernel
theorem dX12_isAllowed_75 : decode cX12_isAllowed 75 = .ok (.iload_n 1, 1) := by decide +kernel
theorem dX12_isAllowed_76 : decode cX12_isAllowed 76 = .ok (.iload 6, 2) := by decide +kernel
theorem dX12_isAllowed_78 : decode cX12_isAllowed 78 = .ok (.invokevirtual 146, 3) := by decide +kernel
theorem dX12_isAllowed_81 : decode cX12_isAllowed 81 = .ok (.if_icmp .ne 7, 3) := by decide +kernel
theorem dX12_isAllowed_84 : decode cX12_isAllowed 84 = .ok (.iconst 1, 1) := by decide +kernel
theorem dX12_isAllowed_85 : decode cX12_isAllowed 85 = .ok (.goto 4, 3) := by decide +kernel
theorem dX12_isAllowed_88 : decode cX12_isAllowed 88 = .ok (.iconst 0, 1) := by decide +kernel
theorem dX12_isAllowed_89 : decode cX12_isAllowed 89 = .ok (.istore 4, 2) := by decide +kernel
theorem dX12_isAllowed_91 : decode cX12_isAllowed 91 = .ok (.iinc 6 1, 3) := by decide +kernel
theorem dX12_isAllowed_94 : decode cX12_isAllowed 94 = .ok (.goto (-39), 3) := by decide +kernel
theorem dX12_isAllowed_97 : decode cX12_isAllowed 97 = .ok (.iinc 5 1, 3) := by decide +kernel
theorem dX12_isAllowed_100 : decode cX12_isAllowed 100 = .ok (.goto (-68), 3) := by decide +kernel
theorem dX12_isAllowed_103 : decode cX12_isAllowed 103 = .ok (.aload_n 0, 1) := by decide +kernel
theorem dX12_isAllowed_104 : decode cX12_isAllowed 104 = .ok (.getfield 150, 3) := by decide +kernel
theorem dX12_isAllowed_107 : decode cX12_isAllowed 107 = .ok (.iconst 1, 1) := by decide +kernel
theorem dX12_isAllowed_108 : decode cX12_isAllowed 108 = .ok (.if_icmp .ne 16, 3) := by decide +kernel
theorem dX12_isAllowed_111 : decode cX12_isAllowed 111 = .ok (.iload 4, 2) := by decide +kernel
theorem dX12_isAllowed_113 : decode cX12_isAllowed 113 = .ok (.ifCond .ne 7, 3) := by decide +kernel
theorem dX12_isAllowed_116 : decode cX12_isAllowed 116 = .ok (.iconst 1, 1) := by decide +kernel
theorem dX12_isAllowed_117 : decode cX12_isAllowed 117 = .ok (.goto 22, 3) := by decide +kernel
theorem dX12_isAllowed_120 : decode cX12_isAllowed 120 = .ok (.iconst 0, 1) := by decide +kernel
theorem dX12_isAllowed_121 : decode cX12_isAllowed 121 = .ok (.goto 18, 3) := by decide +kernel
theorem dX12_isAllowed_124 : decode cX12_isAllowed 124 = .ok (.lload_n 2, 1) := by decide +kernel
theorem dX12_isAllowed_125 : decode cX12_isAllowed 125 = .ok (.aload_n 0, 1) := by decide +kernel
theorem dX12_isAllowed_126 : decode cX12_isAllowed 126 = .ok (.getfield 153, 3) := by decide +kernel
theorem dX12_isAllowed_129 : decode cX12_isAllowed 129 = .ok (.i2l, 1) := by decide +kernel
theorem dX12_isAllowed_130 : decode cX12_isAllowed 130 = .ok (.lcmp, 1) := by decide +kernel
theorem dX12_isAllowed_131 : decode cX12_isAllowed 131 = .ok (.ifCond .ne 7, 3) := by decide +kernel
theorem dX12_isAllowed_134 : decode cX12_isAllowed 134 = .ok (.iconst 1, 1) := by decide +kernel
theorem dX12_isAllowed_135 : decode cX12_isAllowed 135 = .ok (.goto 4, 3) := by decide +kernel
theorem dX12_isAllowed_138 : decode cX12_isAllowed 138 = .ok (.iconst 0, 1) := by decide +kernel
theorem dX12_isAllowed_139 : decode cX12_isAllowed 139 = .ok (.ireturn, 1) := by decide +kernel
theorem dX12_falseOf_0 : decode cX12_falseOf 0 = .ok (.iconst 0, 1) := by decide +kernel
theorem dX12_falseOf_1 : decode cX12_falseOf 1 = .ok (.istore_n 3, 1) := by decide +kernel
theorem dX12_falseOf_2 : decode cX12_falseOf 2 = .ok (.iconst 0, 1) := by decide +kernel
theorem dX12_falseOf_3 : decode cX12_falseOf 3 = .ok (.istore 4, 2) := by decide +kernel
theorem dX12_falseOf_5 : decode cX12_falseOf 5 = .ok (.iload 4, 2) := by decide +kernel
theorem dX12_falseOf_7 : decode cX12_falseOf 7 = .ok (.iload_n 2, 1) := by decide +kernel
theorem dX12_falseOf_8 : decode cX12_falseOf 8 = .ok (.if_icmp .ge 37, 3) := by decide +kernel
theorem dX12_falseOf_11 : decode cX12_falseOf 11 = .ok (.aload_n 0, 1) := by decide +kernel
theorem dX12_falseOf_12 : decode cX12_falseOf 12 = .ok (.iload 4, 2) := by decide +kernel
theorem dX12_falseOf_14 : decode cX12_falseOf 14 = .ok (.invokevirtual 156, 3) := by decide +kernel
theorem dX12_falseOf_17 : decode cX12_falseOf 17 = .ok (.aload_n 0, 1) := by decide +kernel
theorem dX12_falseOf_18 : decode cX12_falseOf 18 = .ok (.iload_n 1, 1) := by decide +kernel
theorem dX12_falseOf_19 : decode cX12_falseOf 19 = .ok (.invokevirtual 160, 3) := by decide +kernel
theorem dX12_falseOf_22 : decode cX12_falseOf 22 = .ok (.aload_n 0, 1) := by decide +kernel
theorem dX12_falseOf_23 : decode cX12_falseOf 23 = .ok (.getfield 30, 3) := by decide +kernel
theorem dX12_falseOf_26 : decode cX12_falseOf 26 = .ok (.iload 4, 2) := by decide +kernel
theorem dX12_falseOf_28 : decode cX12_falseOf 28 = .ok (.iaload, 1) := by decide +kernel
theorem dX12_falseOf_29 : decode cX12_falseOf 29 = .ok (.if_icmp .eq 10, 3) := by decide +kernel
theorem dX12_falseOf_32 : decode cX12_falseOf 32 = .ok (.iload_n 3, 1) := by decide +kernel
theorem dX12_falseOf_33 : decode cX12_falseOf 33 = .ok (.iconst 1, 1) := by decide +kernel
theorem dX12_falseOf_34 : decode cX12_falseOf 34 = .ok (.iload 4, 2) := by decide +kernel
theorem dX12_falseOf_36 : decode cX12_falseOf 36 = .ok (.ishl, 1) := by decide +kernel
theorem dX12_falseOf_37 : decode cX12_falseOf 37 = .ok (.ior, 1) := by decide +kernel
theorem dX12_falseOf_38 : decode cX12_falseOf 38 = .ok (.istore_n 3, 1) := by decide +kernel
theorem dX12_falseOf_39 : decode cX12_falseOf 39 = .ok (.iinc 4 1, 3) := by decide +kernel
theorem dX12_falseOf_42 : decode cX12_falseOf 42 = .ok (.goto (-37), 3) := by decide +kernel
theorem dX12_falseOf_45 : decode cX12_falseOf 45 = .ok (.iload_n 3, 1) := by decide +kernel
theorem dX12_falseOf_46 : decode cX12_falseOf 46 = .ok (.ireturn, 1) := by decide +kernel
theorem dX12_ones_0 : decode cX12_ones 0 = .ok (.iconst 0, 1) := by decide +kernel
theorem dX12_ones_1 : decode cX12_ones 1 = .ok (.istore_n 1, 1) := by decide +kernel
theorem dX12_ones_2 : decode cX12_ones 2 = .ok (.iconst 0, 1) := by decide +kernel
theorem dX12_ones_3 : decode cX12_ones 3 = .ok (.istore_n 2, 1) := by decide +kernel
theorem dX12_ones_4 : decode cX12_ones 4 = .ok (.iload_n 2, 1) := by decide +kernel
theorem dX12_ones_5 : decode cX12_ones 5 = .ok (.bipush 11, 2) := by decide +kernel
theorem dX12_ones_7 : decode cX12_ones 7 = .ok (.if_icmp .ge 17, 3) := by decide +kernel
theorem dX12_ones_10 : decode cX12_ones 10 = .ok (.iload_n 1, 1) := by decide +kernel
theorem dX12_ones_11 : decode cX12_ones 11 = .ok (.iload_n 0, 1) := by decide +kernel
theorem dX12_ones_12 : decode cX12_ones 12 = .ok (.iload_n 2, 1) := by decide +kernel
theorem dX12_ones_13 : decode cX12_ones 13 = .ok (.ishr, 1) := by decide +kernel
theorem dX12_ones_14 : decode cX12_ones 14 = .ok (.iconst 1, 1) := by decide +kernel
theorem dX12_ones_15 : decode cX12_ones 15 = .ok (.iand, 1) := by decide +kernel
theorem dX12_ones_16 : decode cX12_ones 16 = .ok (.iadd, 1) := by decide +kernel
theorem dX12_ones_17 : decode cX12_ones 17 = .ok (.istore_n 1, 1) := by decide +kernel
theorem dX12_ones_18 : decode cX12_ones 18 = .ok (.iinc 2 1, 3) := by decide +kernel
theorem dX12_ones_21 : decode cX12_ones 21 = .ok (.goto (-17), 3) := by decide +kernel
theorem dX12_ones_24 : decode cX12_ones 24 = .ok (.iload_n 1, 1) := by decide +kernel
theorem dX12_ones_25 : decode cX12_ones 25 = .ok (.ireturn, 1) := by decide +kernel
theorem dX12_look_0 : decode cX12_look 0 = .ok (.aload_n 0, 1) := by decide +kernel
theorem dX12_look_1 : decode cX12_look 1 = .ok (.iconst 0, 1) := by decide +kernel
theorem dX12_look_2 : decode cX12_look 2 = .ok (.putfield 164, 3) := by decide +kernel
theorem dX12_look_5 : decode cX12_look 5 = .ok (.iconst 0, 1) := by decide +kernel
theorem dX12_look_6 : decode cX12_look 6 = .ok (.istore_n 1, 1) := by decide +kernel
theorem dX12_look_7 : decode cX12_look 7 = .ok (.iload_n 1, 1) := by decide +kernel
theorem dX12_look_8 : decode cX12_look 8 = .ok (.aload_n 0, 1) := by decide +kernel
theorem dX12_look_9 : decode cX12_look 9 = .ok (.getfield 16, 3) := by decide +kernel
theorem dX12_look_12 : decode cX12_look 12 = .ok (.if_icmp .ge 59, 3) := by decide +kernel
theorem dX12_look_15 : decode cX12_look 15 = .ok (.aload_n 0, 1) := by decide +kernel
theorem dX12_look_16 : decode cX12_look 16 = .ok (.iload_n 1, 1) := by decide +kernel
theorem dX12_look_17 : decode cX12_look 17 = .ok (.invokevirtual 167, 3) := by decide +kernel
theorem dX12_look_20 : decode cX12_look 20 = .ok (.ifCond .eq 45, 3) := by decide +kernel
theorem dX12_look_23 : decode cX12_look 23 = .ok (.aload_n 0, 1) := by decide +kernel
theorem dX12_look_24 : decode cX12_look 24 = .ok (.iload_n 1, 1) := by decide +kernel
theorem dX12_look_25 : decode cX12_look 25 = .ok (.aload_n 0, 1) := by decide +kernel
theorem dX12_look_26 : decode cX12_look 26 = .ok (.getfield 171, 3) := by decide +kernel
theorem dX12_look_29 : decode cX12_look 29 = .ok (.invokevirtual 174, 3) := by decide +kernel
theorem dX12_look_32 : decode cX12_look 32 = .ok (.invokestatic 177, 3) := by decide +kernel
theorem dX12_look_35 : decode cX12_look 35 = .ok (.aload_n 0, 1) := by decide +kernel
theorem dX12_look_36 : decode cX12_look 36 = .ok (.getfield 180, 3) := by decide +kernel
theorem dX12_look_39 : decode cX12_look 39 = .ok (.if_icmp .le 6, 3) := by decide +kernel
theorem dX12_look_42 : decode cX12_look 42 = .ok (.goto 23, 3) := by decide +kernel
theorem dX12_look_45 : decode cX12_look 45 = .ok (.aload_n 0, 1) := by decide +kernel
theorem dX12_look_46 : decode cX12_look 46 = .ok (.getfield 42, 3) := by decide +kernel
theorem dX12_look_49 : decode cX12_look 49 = .ok (.aload_n 0, 1) := by decide +kernel
theorem dX12_look_50 : decode cX12_look 50 = .ok (.getfield 164, 3) := by decide +kernel
theorem dX12_look_53 : decode cX12_look 53 = .ok (.iload_n 1, 1) := by decide +kernel
theorem dX12_look_54 : decode cX12_look 54 = .ok (.iastore, 1) := by decide +kernel
theorem dX12_look_55 : decode cX12_look 55 = .ok (.aload_n 0, 1) := by decide +kernel
theorem dX12_look_56 : decode cX12_look 56 = .ok (.dup, 1) := by decide +kernel
theorem dX12_look_57 : decode cX12_look 57 = .ok (.getfield 164, 3) := by decide +kernel
theorem dX12_look_60 : decode cX12_look 60 = .ok (.iconst 1, 1) := by decide +kernel
theorem dX12_look_61 : decode cX12_look 61 = .ok (.iadd, 1) := by decide +kernel
theorem dX12_look_62 : decode cX12_look 62 = .ok (.putfield 164, 3) := by decide +kernel
theorem dX12_look_65 : decode cX12_look 65 = .ok (.iinc 1 1, 3) := by decide +kernel
theorem dX12_look_68 : decode cX12_look 68 = .ok (.goto (-61), 3) := by decide +kernel
theorem dX12_look_71 : decode cX12_look 71 = .ok (.return_, 1) := by decide +kernel
theorem dX12_begin_0 : decode cX12_begin 0 = .ok (.aload_n 0, 1) := by decide +kernel
theorem dX12_begin_1 : decode cX12_begin 1 = .ok (.iconst 0, 1) := by decide +kernel
theorem dX12_begin_2 : decode cX12_begin 2 = .ok (.putfield 139, 3) := by decide +kernel
theorem dX12_begin_5 : decode cX12_begin 5 = .ok (.iload_n 1, 1) := by decide +kernel
theorem dX12_begin_6 : decode cX12_begin 6 = .ok (.iconst 1, 1) := by decide +kernel
theorem dX12_begin_7 : decode cX12_begin 7 = .ok (.iconst 5, 1) := by decide +kernel
theorem dX12_begin_8 : decode cX12_begin 8 = .ok (.invokestatic 142, 3) := by decide +kernel
theorem dX12_begin_11 : decode cX12_begin 11 = .ok (.ifCond .eq 13, 3) := by decide +kernel
theorem dX12_begin_14 : decode cX12_begin 14 = .ok (.iload_n 2, 1) := by decide +kernel
theorem dX12_begin_15 : decode cX12_begin 15 = .ok (.iconst 1, 1) := by decide +kernel
theorem dX12_begin_16 : decode cX12_begin 16 = .ok (.bipush 8, 2) := by decide +kernel
theorem dX12_begin_18 : decode cX12_begin 18 = .ok (.invokestatic 142, 3) := by decide +kernel
theorem dX12_begin_21 : decode cX12_begin 21 = .ok (.ifCond .ne 5, 3) := by decide +kernel
theorem dX12_begin_24 : decode cX12_begin 24 = .ok (.iconst (-1), 1) := by decide +kernel
theorem dX12_begin_25 : decode cX12_begin 25 = .ok (.ireturn, 1) := by decide +kernel
theorem dX12_begin_26 : decode cX12_begin 26 = .ok (.iconst 1, 1) := by decide +kernel
theorem dX12_begin_27 : decode cX12_begin 27 = .ok (.istore_n 3, 1) := by decide +kernel
theorem dX12_begin_28 : decode cX12_begin 28 = .ok (.iconst 0, 1) := by decide +kernel
theorem dX12_begin_29 : decode cX12_begin 29 = .ok (.istore 4, 2) := by decide +kernel
theorem dX12_begin_31 : decode cX12_begin 31 = .ok (.iload 4, 2) := by decide +kernel
theorem dX12_begin_33 : decode cX12_begin 33 = .ok (.iload_n 1, 1) := by decide +kernel
theorem dX12_begin_34 : decode cX12_begin 34 = .ok (.if_icmp .ge 13, 3) := by decide +kernel
theorem dX12_begin_37 : decode cX12_begin 37 = .ok (.iload_n 3, 1) := by decide +kernel
theorem dX12_begin_38 : decode cX12_begin 38 = .ok (.iload_n 2, 1) := by decide +kernel
theorem dX12_begin_39 : decode cX12_begin 39 = .ok (.imul, 1) := by decide +kernel
theorem dX12_begin_40 : decode cX12_begin 40 = .ok (.istore_n 3, 1) := by decide +kernel
theorem dX12_begin_41 : decode cX12_begin 41 = .ok (.iinc 4 1, 3) := by decide +kernel
theorem dX12_begin_44 : decode cX12_begin 44 = .ok (.goto (-13), 3) := by decide +kernel
theorem dX12_begin_47 : decode cX12_begin 47 = .ok (.iload_n 3, 1) := by decide +kernel
theorem dX12_begin_48 : decode cX12_begin 48 = .ok (.sipush 4096, 3) := by decide +kernel
theorem dX12_begin_51 : decode cX12_begin 51 = .ok (.if_icmp .le 6, 3) := by decide +kernel
theorem dX12_begin_54 : decode cX12_begin 54 = .ok (.bipush (-5), 2) := by decide +kernel
theorem dX12_begin_56 : decode cX12_begin 56 = .ok (.ireturn, 1) := by decide +kernel
theorem dX12_begin_57 : decode cX12_begin 57 = .ok (.aload_n 0, 1) := by decide +kernel
theorem dX12_begin_58 : decode cX12_begin 58 = .ok (.iload_n 1, 1) := by decide +kernel
theorem dX12_begin_59 : decode cX12_begin 59 = .ok (.putfield 7, 3) := by decide +kernel
theorem dX12_begin_62 : decode cX12_begin 62 = .ok (.aload_n 0, 1) := by decide +kernel
theorem dX12_begin_63 : decode cX12_begin 63 = .ok (.iload_n 2, 1) := by decide +kernel
theorem dX12_begin_64 : decode cX12_begin 64 = .ok (.putfield 13, 3) := by decide +kernel
theorem dX12_begin_67 : decode cX12_begin 67 = .ok (.aload_n 0, 1) := by decide +kernel
theorem dX12_begin_68 : decode cX12_begin 68 = .ok (.iload_n 3, 1) := by decide +kernel
theorem dX12_begin_69 : decode cX12_begin 69 = .ok (.putfield 16, 3) := by decide +kernel
theorem dX12_begin_72 : decode cX12_begin 72 = .ok (.aload_n 0, 1) := by decide +kernel
theorem dX12_begin_73 : decode cX12_begin 73 = .ok (.iconst 0, 1) := by decide +kernel
theorem dX12_begin_74 : decode cX12_begin 74 = .ok (.putfield 150, 3) := by decide +kernel
theorem dX12_begin_77 : decode cX12_begin 77 = .ok (.aload_n 0, 1) := by decide +kernel
theorem dX12_begin_78 : decode cX12_begin 78 = .ok (.iconst 0, 1) := by decide +kernel
theorem dX12_begin_79 : decode cX12_begin 79 = .ok (.putfield 153, 3) := by decide +kernel
theorem dX12_begin_82 : decode cX12_begin 82 = .ok (.aload_n 0, 1) := by decide +kernel
theorem dX12_begin_83 : decode cX12_begin 83 = .ok (.iconst 0, 1) := by decide +kernel
theorem dX12_begin_84 : decode cX12_begin 84 = .ok (.putfield 180, 3) := by decide +kernel
theorem dX12_begin_87 : decode cX12_begin 87 = .ok (.iconst 0, 1) := by decide +kernel
theorem dX12_begin_88 : decode cX12_begin 88 = .ok (.istore 4, 2) := by decide +kernel
theorem dX12_begin_90 : decode cX12_begin 90 = .ok (.iload 4, 2) := by decide +kernel
theorem dX12_begin_92 : decode cX12_begin 92 = .ok (.sipush 4096, 3) := by decide +kernel
theorem dX12_begin_95 : decode cX12_begin 95 = .ok (.if_icmp .ge 17, 3) := by decide +kernel
theorem dX12_begin_98 : decode cX12_begin 98 = .ok (.aload_n 0, 1) := by decide +kernel
theorem dX12_begin_99 : decode cX12_begin 99 = .ok (.getfield 19, 3) := by decide +kernel
theorem dX12_begin_102 : decode cX12_begin 102 = .ok (.iload 4, 2) := by decide +kernel
theorem dX12_begin_104 : decode cX12_begin 104 = .ok (.iconst 0, 1) := by decide +kernel
theorem dX12_begin_105 : decode cX12_begin 105 = .ok (.bastore, 1) := by decide +kernel
theorem dX12_begin_106 : decode cX12_begin 106 = .ok (.iinc 4 1, 3) := by decide +kernel
theorem dX12_begin_109 : decode cX12_begin 109 = .ok (.goto (-19), 3) := by decide +kernel
theorem dX12_begin_112 : decode cX12_begin 112 = .ok (.aload_n 0, 1) := by decide +kernel
theorem dX12_begin_113 : decode cX12_begin 113 = .ok (.iconst 0, 1) := by decide +kernel
theorem dX12_begin_114 : decode cX12_begin 114 = .ok (.putfield 183, 3) := by decide +kernel
theorem dX12_begin_117 : decode cX12_begin 117 = .ok (.iconst 0, 1) := by decide +kernel
theorem dX12_begin_118 : decode cX12_begin 118 = .ok (.istore 4, 2) := by decide +kernel
theorem dX12_begin_120 : decode cX12_begin 120 = .ok (.iload 4, 2) := by decide +kernel
theorem dX12_begin_122 : decode cX12_begin 122 = .ok (.iconst 5, 1) := by decide +kernel
theorem dX12_begin_123 : decode cX12_begin 123 = .ok (.if_icmp .ge 17, 3) := by decide +kernel
theorem dX12_begin_126 : decode cX12_begin 126 = .ok (.aload_n 0, 1) := by decide +kernel
theorem dX12_begin_127 : decode cX12_begin 127 = .ok (.getfield 23, 3) := by decide +kernel
theorem dX12_begin_130 : decode cX12_begin 130 = .ok (.iload 4, 2) := by decide +kernel
theorem dX12_begin_132 : decode cX12_begin 132 = .ok (.iconst (-1), 1) := by decide +kernel
theorem dX12_begin_133 : decode cX12_begin 133 = .ok (.iastore, 1) := by decide +kernel
theorem dX12_begin_134 : decode cX12_begin 134 = .ok (.iinc 4 1, 3) := by decide +kernel
theorem dX12_begin_137 : decode cX12_begin 137 = .ok (.goto (-17), 3) := by decide +kernel
theorem dX12_begin_140 : decode cX12_begin 140 = .ok (.aload_n 0, 1) := by decide +kernel
theorem dX12_begin_141 : decode cX12_begin 141 = .ok (.iconst 0, 1) := by decide +kernel
theorem dX12_begin_142 : decode cX12_begin 142 = .ok (.putfield 171, 3) := by decide +kernel
theorem dX12_begin_145 : decode cX12_begin 145 = .ok (.aload_n 0, 1) := by decide +kernel
theorem dX12_begin_146 : decode cX12_begin 146 = .ok (.iconst (-1), 1) := by decide +kernel
theorem dX12_begin_147 : decode cX12_begin 147 = .ok (.putfield 36, 3) := by decide +kernel
theorem dX12_begin_150 : decode cX12_begin 150 = .ok (.aload_n 0, 1) := by decide +kernel
theorem dX12_begin_151 : decode cX12_begin 151 = .ok (.iconst 0, 1) := by decide +kernel
theorem dX12_begin_152 : decode cX12_begin 152 = .ok (.putfield 186, 3) := by decide +kernel
theorem dX12_begin_155 : decode cX12_begin 155 = .ok (.aload_n 0, 1) := by decide +kernel
theorem dX12_begin_156 : decode cX12_begin 156 = .ok (.iconst 0, 1) := by decide +kernel
theorem dX12_begin_157 : decode cX12_begin 157 = .ok (.putfield 189, 3) := by decide +kernel
theorem dX12_begin_160 : decode cX12_begin 160 = .ok (.aload_n 0, 1) := by decide +kernel
theorem dX12_begin_161 : decode cX12_begin 161 = .ok (.iconst 0, 1) := by decide +kernel
theorem dX12_begin_162 : decode cX12_begin 162 = .ok (.putfield 192, 3) := by decide +kernel
theorem dX12_begin_165 : decode cX12_begin 165 = .ok (.iload_n 3, 1) := by decide +kernel
theorem dX12_begin_166 : decode cX12_begin 166 = .ok (.ireturn, 1) := by decide +kernel
theorem dX12_allowed_0 : decode cX12_allowed 0 = .ok (.iconst 0, 1) := by decide +kernel
theorem dX12_allowed_1 : decode cX12_allowed 1 = .ok (.istore_n 1, 1) := by decide +kernel
theorem dX12_allowed_2 : decode cX12_allowed 2 = .ok (.iconst 0, 1) := by decide +kernel
theorem dX12_allowed_3 : decode cX12_allowed 3 = .ok (.istore_n 2, 1) := by decide +kernel
theorem dX12_allowed_4 : decode cX12_allowed 4 = .ok (.iload_n 2, 1) := by decide +kernel
theorem dX12_allowed_5 : decode cX12_allowed 5 = .ok (.aload_n 0, 1) := by decide +kernel
theorem dX12_allowed_6 : decode cX12_allowed 6 = .ok (.getfield 16, 3) := by decide +kernel
theorem dX12_allowed_9 : decode cX12_allowed 9 = .ok (.if_icmp .ge 25, 3) := by decide +kernel
theorem dX12_allowed_12 : decode cX12_allowed 12 = .ok (.iload_n 1, 1) := by decide +kernel
theorem dX12_allowed_13 : decode cX12_allowed 13 = .ok (.aload_n 0, 1) := by decide +kernel
theorem dX12_allowed_14 : decode cX12_allowed 14 = .ok (.iload_n 2, 1) := by decide +kernel
theorem dX12_allowed_15 : decode cX12_allowed 15 = .ok (.invokevirtual 167, 3) := by decide +kernel
theorem dX12_allowed_18 : decode cX12_allowed 18 = .ok (.ifCond .eq 7, 3) := by decide +kernel
theorem dX12_allowed_21 : decode cX12_allowed 21 = .ok (.iconst 1, 1) := by decide +kernel
theorem dX12_allowed_22 : decode cX12_allowed 22 = .ok (.goto 4, 3) := by decide +kernel
theorem dX12_allowed_25 : decode cX12_allowed 25 = .ok (.iconst 0, 1) := by decide +kernel
theorem dX12_allowed_26 : decode cX12_allowed 26 = .ok (.iadd, 1) := by decide +kernel
theorem dX12_allowed_27 : decode cX12_allowed 27 = .ok (.istore_n 1, 1) := by decide +kernel
theorem dX12_allowed_28 : decode cX12_allowed 28 = .ok (.iinc 2 1, 3) := by decide +kernel
theorem dX12_allowed_31 : decode cX12_allowed 31 = .ok (.goto (-27), 3) := by decide +kernel
theorem dX12_allowed_34 : decode cX12_allowed 34 = .ok (.iload_n 1, 1) := by decide +kernel
theorem dX12_allowed_35 : decode cX12_allowed 35 = .ok (.ireturn, 1) := by decide +kernel
theorem dX12_law_0 : decode cX12_law 0 = .ok (.aload_n 0, 1) := by decide +kernel
theorem dX12_law_1 : decode cX12_law 1 = .ok (.iconst 0, 1) := by decide +kernel
theorem dX12_law_2 : decode cX12_law 2 = .ok (.putfield 139, 3) := by decide +kernel
theorem dX12_law_5 : decode cX12_law 5 = .ok (.iload_n 1, 1) := by decide +kernel
theorem dX12_law_6 : decode cX12_law 6 = .ok (.iconst 0, 1) := by decide +kernel
theorem dX12_law_7 : decode cX12_law 7 = .ok (.iconst 3, 1) := by decide +kernel
theorem dX12_law_8 : decode cX12_law 8 = .ok (.invokestatic 142, 3) := by decide +kernel
theorem dX12_law_11 : decode cX12_law 11 = .ok (.ifCond .ne 5, 3) := by decide +kernel
theorem dX12_law_14 : decode cX12_law 14 = .ok (.iconst (-1), 1) := by decide +kernel
theorem dX12_law_15 : decode cX12_law 15 = .ok (.ireturn, 1) := by decide +kernel
theorem dX12_law_16 : decode cX12_law 16 = .ok (.aload_n 0, 1) := by decide +kernel
theorem dX12_law_17 : decode cX12_law 17 = .ok (.getfield 171, 3) := by decide +kernel
theorem dX12_law_20 : decode cX12_law 20 = .ok (.ifCond .le 6, 3) := by decide +kernel
theorem dX12_law_23 : decode cX12_law 23 = .ok (.bipush (-3), 2) := by decide +kernel
theorem dX12_law_25 : decode cX12_law 25 = .ok (.ireturn, 1) := by decide +kernel
theorem dX12_law_26 : decode cX12_law 26 = .ok (.aload_n 0, 1) := by decide +kernel
theorem dX12_law_27 : decode cX12_law 27 = .ok (.iload_n 1, 1) := by decide +kernel
theorem dX12_law_28 : decode cX12_law 28 = .ok (.putfield 150, 3) := by decide +kernel
theorem dX12_law_31 : decode cX12_law 31 = .ok (.aload_n 0, 1) := by decide +kernel
theorem dX12_law_32 : decode cX12_law 32 = .ok (.iload_n 2, 1) := by decide +kernel
theorem dX12_law_33 : decode cX12_law 33 = .ok (.putfield 153, 3) := by decide +kernel
theorem dX12_law_36 : decode cX12_law 36 = .ok (.aload_n 0, 1) := by decide +kernel
theorem dX12_law_37 : decode cX12_law 37 = .ok (.invokevirtual 195, 3) := by decide +kernel
theorem dX12_law_40 : decode cX12_law 40 = .ok (.ireturn, 1) := by decide +kernel
theorem dX12_enlist_0 : decode cX12_enlist 0 = .ok (.aload_n 0, 1) := by decide +kernel
theorem dX12_enlist_1 : decode cX12_enlist 1 = .ok (.iconst 0, 1) := by decide +kernel
theorem dX12_enlist_2 : decode cX12_enlist 2 = .ok (.putfield 139, 3) := by decide +kernel
theorem dX12_enlist_5 : decode cX12_enlist 5 = .ok (.aload_n 0, 1) := by decide +kernel
theorem dX12_enlist_6 : decode cX12_enlist 6 = .ok (.iload_n 1, 1) := by decide +kernel
theorem dX12_enlist_7 : decode cX12_enlist 7 = .ok (.invokevirtual 199, 3) := by decide +kernel
theorem dX12_enlist_10 : decode cX12_enlist 10 = .ok (.ifCond .ne 5, 3) := by decide +kernel
theorem dX12_enlist_13 : decode cX12_enlist 13 = .ok (.iconst (-1), 1) := by decide +kernel
theorem dX12_enlist_14 : decode cX12_enlist 14 = .ok (.ireturn, 1) := by decide +kernel
theorem dX12_enlist_15 : decode cX12_enlist 15 = .ok (.aload_n 0, 1) := by decide +kernel
theorem dX12_enlist_16 : decode cX12_enlist 16 = .ok (.getfield 171, 3) := by decide +kernel
theorem dX12_enlist_19 : decode cX12_enlist 19 = .ok (.ifCond .le 6, 3) := by decide +kernel
theorem dX12_enlist_22 : decode cX12_enlist 22 = .ok (.bipush (-3), 2) := by decide +kernel
theorem dX12_enlist_24 : decode cX12_enlist 24 = .ok (.ireturn, 1) := by decide +kernel
theorem dX12_enlist_25 : decode cX12_enlist 25 = .ok (.aload_n 0, 1) := by decide +kernel
theorem dX12_enlist_26 : decode cX12_enlist 26 = .ok (.getfield 19, 3) := by decide +kernel
theorem dX12_enlist_29 : decode cX12_enlist 29 = .ok (.iload_n 1, 1) := by decide +kernel
theorem dX12_enlist_30 : decode cX12_enlist 30 = .ok (.baload, 1) := by decide +kernel
theorem dX12_enlist_31 : decode cX12_enlist 31 = .ok (.ifCond .eq 8, 3) := by decide +kernel
theorem dX12_enlist_34 : decode cX12_enlist 34 = .ok (.aload_n 0, 1) := by decide +kernel
theorem dX12_enlist_35 : decode cX12_enlist 35 = .ok (.getfield 183, 3) := by decide +kernel
theorem dX12_enlist_38 : decode cX12_enlist 38 = .ok (.ireturn, 1) := by decide +kernel
theorem dX12_enlist_39 : decode cX12_enlist 39 = .ok (.aload_n 0, 1) := by decide +kernel
theorem dX12_enlist_40 : decode cX12_enlist 40 = .ok (.getfield 183, 3) := by decide +kernel
theorem dX12_enlist_43 : decode cX12_enlist 43 = .ok (.sipush 300, 3) := by decide +kernel
theorem dX12_enlist_46 : decode cX12_enlist 46 = .ok (.if_icmp .ne 6, 3) := by decide +kernel
theorem dX12_enlist_49 : decode cX12_enlist 49 = .ok (.bipush (-2), 2) := by decide +kernel
theorem dX12_enlist_51 : decode cX12_enlist 51 = .ok (.ireturn, 1) := by decide +kernel
theorem dX12_enlist_52 : decode cX12_enlist 52 = .ok (.aload_n 0, 1) := by decide +kernel
theorem dX12_enlist_53 : decode cX12_enlist 53 = .ok (.getfield 19, 3) := by decide +kernel
theorem dX12_enlist_56 : decode cX12_enlist 56 = .ok (.iload_n 1, 1) := by decide +kernel
theorem dX12_enlist_57 : decode cX12_enlist 57 = .ok (.iconst 1, 1) := by decide +kernel
theorem dX12_enlist_58 : decode cX12_enlist 58 = .ok (.bastore, 1) := by decide +kernel
theorem dX12_enlist_59 : decode cX12_enlist 59 = .ok (.aload_n 0, 1) := by decide +kernel
theorem dX12_enlist_60 : decode cX12_enlist 60 = .ok (.dup, 1) := by decide +kernel
theorem dX12_enlist_61 : decode cX12_enlist 61 = .ok (.getfield 183, 3) := by decide +kernel
theorem dX12_enlist_64 : decode cX12_enlist 64 = .ok (.iconst 1, 1) := by decide +kernel
theorem dX12_enlist_65 : decode cX12_enlist 65 = .ok (.iadd, 1) := by decide +kernel
theorem dX12_enlist_66 : decode cX12_enlist 66 = .ok (.putfield 183, 3) := by decide +kernel
theorem dX12_enlist_69 : decode cX12_enlist 69 = .ok (.aload_n 0, 1) := by decide +kernel
theorem dX12_enlist_70 : decode cX12_enlist 70 = .ok (.getfield 183, 3) := by decide +kernel
theorem dX12_enlist_73 : decode cX12_enlist 73 = .ok (.ireturn, 1) := by decide +kernel
theorem dX12_lies_0 : decode cX12_lies 0 = .ok (.aload_n 0, 1) := by decide +kernel
theorem dX12_lies_1 : decode cX12_lies 1 = .ok (.iconst 0, 1) := by decide +kernel
theorem dX12_lies_2 : decode cX12_lies 2 = .ok (.putfield 139, 3) := by decide +kernel
theorem dX12_lies_5 : decode cX12_lies 5 = .ok (.iload_n 1, 1) := by decide +kernel
theorem dX12_lies_6 : decode cX12_lies 6 = .ok (.iconst 0, 1) := by decide +kernel
theorem dX12_lies_7 : decode cX12_lies 7 = .ok (.iconst 2, 1) := by decide +kernel
theorem dX12_lies_8 : decode cX12_lies 8 = .ok (.invokestatic 142, 3) := by decide +kernel
theorem dX12_lies_11 : decode cX12_lies 11 = .ok (.ifCond .ne 5, 3) := by decide +kernel
theorem dX12_lies_14 : decode cX12_lies 14 = .ok (.iconst (-1), 1) := by decide +kernel
theorem dX12_lies_15 : decode cX12_lies 15 = .ok (.ireturn, 1) := by decide +kernel
theorem dX12_lies_16 : decode cX12_lies 16 = .ok (.aload_n 0, 1) := by decide +kernel
theorem dX12_lies_17 : decode cX12_lies 17 = .ok (.getfield 171, 3) := by decide +kernel
theorem dX12_lies_20 : decode cX12_lies 20 = .ok (.ifCond .le 6, 3) := by decide +kernel
theorem dX12_lies_23 : decode cX12_lies 23 = .ok (.bipush (-3), 2) := by decide +kernel
theorem dX12_lies_25 : decode cX12_lies 25 = .ok (.ireturn, 1) := by decide +kernel
theorem dX12_lies_26 : decode cX12_lies 26 = .ok (.aload_n 0, 1) := by decide +kernel
theorem dX12_lies_27 : decode cX12_lies 27 = .ok (.getfield 180, 3) := by decide +kernel
theorem dX12_lies_30 : decode cX12_lies 30 = .ok (.istore_n 2, 1) := by decide +kernel
theorem dX12_lies_31 : decode cX12_lies 31 = .ok (.aload_n 0, 1) := by decide +kernel
theorem dX12_lies_32 : decode cX12_lies 32 = .ok (.iload_n 1, 1) := by decide +kernel
theorem dX12_lies_33 : decode cX12_lies 33 = .ok (.putfield 180, 3) := by decide +kernel
theorem dX12_lies_36 : decode cX12_lies 36 = .ok (.iload_n 2, 1) := by decide +kernel
theorem dX12_lies_37 : decode cX12_lies 37 = .ok (.ireturn, 1) := by decide +kernel
theorem dX12_found_0 : decode cX12_found 0 = .ok (.aload_n 0, 1) := by decide +kernel
theorem dX12_found_1 : decode cX12_found 1 = .ok (.dup, 1) := by decide +kernel
theorem dX12_found_2 : decode cX12_found 2 = .ok (.getfield 192, 3) := by decide +kernel
theorem dX12_found_5 : decode cX12_found 5 = .ok (.iconst 1, 1) := by decide +kernel
theorem dX12_found_6 : decode cX12_found 6 = .ok (.iadd, 1) := by decide +kernel
theorem dX12_found_7 : decode cX12_found 7 = .ok (.putfield 192, 3) := by decide +kernel
theorem dX12_found_10 : decode cX12_found 10 = .ok (.iload_n 1, 1) := by decide +kernel
theorem dX12_found_11 : decode cX12_found 11 = .ok (.ireturn, 1) := by decide +kernel
theorem dX12_peg_0 : decode cX12_peg 0 = .ok (.aload_n 0, 1) := by decide +kernel
theorem dX12_peg_1 : decode cX12_peg 1 = .ok (.iconst 0, 1) := by decide +kernel
theorem dX12_peg_2 : decode cX12_peg 2 = .ok (.putfield 139, 3) := by decide +kernel
theorem dX12_peg_5 : decode cX12_peg 5 = .ok (.iload_n 1, 1) := by decide +kernel
theorem dX12_peg_6 : decode cX12_peg 6 = .ok (.iconst 0, 1) := by decide +kernel
theorem dX12_peg_7 : decode cX12_peg 7 = .ok (.aload_n 0, 1) := by decide +kernel
theorem dX12_peg_8 : decode cX12_peg 8 = .ok (.getfield 7, 3) := by decide +kernel
theorem dX12_peg_11 : decode cX12_peg 11 = .ok (.iconst 1, 1) := by decide +kernel
theorem dX12_peg_12 : decode cX12_peg 12 = .ok (.isub, 1) := by decide +kernel
theorem dX12_peg_13 : decode cX12_peg 13 = .ok (.invokestatic 142, 3) := by decide +kernel
theorem dX12_peg_16 : decode cX12_peg 16 = .ok (.ifCond .ne 10, 3) := by decide +kernel
theorem dX12_peg_19 : decode cX12_peg 19 = .ok (.aload_n 0, 1) := by decide +kernel
theorem dX12_peg_20 : decode cX12_peg 20 = .ok (.bipush (-13), 2) := by decide +kernel
theorem dX12_peg_22 : decode cX12_peg 22 = .ok (.invokevirtual 202, 3) := by decide +kernel
theorem dX12_peg_25 : decode cX12_peg 25 = .ok (.ireturn, 1) := by decide +kernel
theorem dX12_peg_26 : decode cX12_peg 26 = .ok (.iload_n 2, 1) := by decide +kernel
theorem dX12_peg_27 : decode cX12_peg 27 = .ok (.iconst (-1), 1) := by decide +kernel
theorem dX12_peg_28 : decode cX12_peg 28 = .ok (.aload_n 0, 1) := by decide +kernel
theorem dX12_peg_29 : decode cX12_peg 29 = .ok (.getfield 13, 3) := by decide +kernel
theorem dX12_peg_32 : decode cX12_peg 32 = .ok (.iconst 1, 1) := by decide +kernel
theorem dX12_peg_33 : decode cX12_peg 33 = .ok (.isub, 1) := by decide +kernel
theorem dX12_peg_34 : decode cX12_peg 34 = .ok (.invokestatic 142, 3) := by decide +kernel
theorem dX12_peg_37 : decode cX12_peg 37 = .ok (.ifCond .ne 6, 3) := by decide +kernel
theorem dX12_peg_40 : decode cX12_peg 40 = .ok (.bipush (-16), 2) := by decide +kernel
theorem dX12_peg_42 : decode cX12_peg 42 = .ok (.ireturn, 1) := by decide +kernel
theorem dX12_peg_43 : decode cX12_peg 43 = .ok (.aload_n 0, 1) := by decide +kernel
theorem dX12_peg_44 : decode cX12_peg 44 = .ok (.getfield 23, 3) := by decide +kernel
theorem dX12_peg_47 : decode cX12_peg 47 = .ok (.iload_n 1, 1) := by decide +kernel
theorem dX12_peg_48 : decode cX12_peg 48 = .ok (.iaload, 1) := by decide +kernel
theorem dX12_peg_49 : decode cX12_peg 49 = .ok (.istore_n 3, 1) := by decide +kernel
theorem dX12_peg_50 : decode cX12_peg 50 = .ok (.aload_n 0, 1) := by decide +kernel
theorem dX12_peg_51 : decode cX12_peg 51 = .ok (.getfield 23, 3) := by decide +kernel
theorem dX12_peg_54 : decode cX12_peg 54 = .ok (.iload_n 1, 1) := by decide +kernel
theorem dX12_peg_55 : decode cX12_peg 55 = .ok (.iload_n 2, 1) := by decide +kernel
theorem dX12_peg_56 : decode cX12_peg 56 = .ok (.iastore, 1) := by decide +kernel
theorem dX12_peg_57 : decode cX12_peg 57 = .ok (.iload_n 3, 1) := by decide +kernel
theorem dX12_peg_58 : decode cX12_peg 58 = .ok (.ireturn, 1) := by decide +kernel
theorem dX12_show_0 : decode cX12_show 0 = .ok (.aload_n 0, 1) := by decide +kernel
theorem dX12_show_1 : decode cX12_show 1 = .ok (.iconst 0, 1) := by decide +kernel
theorem dX12_show_2 : decode cX12_show 2 = .ok (.putfield 139, 3) := by decide +kernel
theorem dX12_show_5 : decode cX12_show 5 = .ok (.aload_n 0, 1) := by decide +kernel
theorem dX12_show_6 : decode cX12_show 6 = .ok (.iload_n 1, 1) := by decide +kernel
theorem dX12_show_7 : decode cX12_show 7 = .ok (.invokevirtual 199, 3) := by decide +kernel
theorem dX12_show_10 : decode cX12_show 10 = .ok (.ifCond .ne 5, 3) := by decide +kernel
theorem dX12_show_13 : decode cX12_show 13 = .ok (.iconst (-1), 1) := by decide +kernel
theorem dX12_show_14 : decode cX12_show 14 = .ok (.ireturn, 1) := by decide +kernel
theorem dX12_show_15 : decode cX12_show 15 = .ok (.iconst 0, 1) := by decide +kernel
theorem dX12_show_16 : decode cX12_show 16 = .ok (.istore_n 2, 1) := by decide +kernel
theorem dX12_show_17 : decode cX12_show 17 = .ok (.iload_n 2, 1) := by decide +kernel
theorem dX12_show_18 : decode cX12_show 18 = .ok (.aload_n 0, 1) := by decide +kernel
theorem dX12_show_19 : decode cX12_show 19 = .ok (.getfield 7, 3) := by decide +kernel
theorem dX12_show_22 : decode cX12_show 22 = .ok (.if_icmp .ge 21, 3) := by decide +kernel
theorem dX12_show_25 : decode cX12_show 25 = .ok (.aload_n 0, 1) := by decide +kernel
theorem dX12_show_26 : decode cX12_show 26 = .ok (.getfield 23, 3) := by decide +kernel
theorem dX12_show_29 : decode cX12_show 29 = .ok (.iload_n 2, 1) := by decide +kernel
theorem dX12_show_30 : decode cX12_show 30 = .ok (.aload_n 0, 1) := by decide +kernel
theorem dX12_show_31 : decode cX12_show 31 = .ok (.iload_n 1, 1) := by decide +kernel
theorem dX12_show_32 : decode cX12_show 32 = .ok (.iload_n 2, 1) := by decide +kernel
theorem dX12_show_33 : decode cX12_show 33 = .ok (.invokevirtual 146, 3) := by decide +kernel
theorem dX12_show_36 : decode cX12_show 36 = .ok (.iastore, 1) := by decide +kernel
theorem dX12_show_37 : decode cX12_show 37 = .ok (.iinc 2 1, 3) := by decide +kernel
theorem dX12_show_40 : decode cX12_show 40 = .ok (.goto (-23), 3) := by decide +kernel
theorem dX12_show_43 : decode cX12_show 43 = .ok (.aload_n 0, 1) := by decide +kernel
theorem dX12_show_44 : decode cX12_show 44 = .ok (.invokevirtual 205, 3) := by decide +kernel
theorem dX12_show_47 : decode cX12_show 47 = .ok (.ireturn, 1) := by decide +kernel
theorem dX12_hand_0 : decode cX12_hand 0 = .ok (.aload_n 0, 1) := by decide +kernel
theorem dX12_hand_1 : decode cX12_hand 1 = .ok (.iconst 0, 1) := by decide +kernel
theorem dX12_hand_2 : decode cX12_hand 2 = .ok (.putfield 139, 3) := by decide +kernel
theorem dX12_hand_5 : decode cX12_hand 5 = .ok (.iload_n 1, 1) := by decide +kernel
theorem dX12_hand_6 : decode cX12_hand 6 = .ok (.iconst 0, 1) := by decide +kernel
theorem dX12_hand_7 : decode cX12_hand 7 = .ok (.aload_n 0, 1) := by decide +kernel
theorem dX12_hand_8 : decode cX12_hand 8 = .ok (.getfield 7, 3) := by decide +kernel
theorem dX12_hand_11 : decode cX12_hand 11 = .ok (.iconst 1, 1) := by decide +kernel
theorem dX12_hand_12 : decode cX12_hand 12 = .ok (.isub, 1) := by decide +kernel
theorem dX12_hand_13 : decode cX12_hand 13 = .ok (.invokestatic 142, 3) := by decide +kernel
theorem dX12_hand_16 : decode cX12_hand 16 = .ok (.ifCond .eq 12, 3) := by decide +kernel
theorem dX12_hand_19 : decode cX12_hand 19 = .ok (.aload_n 0, 1) := by decide +kernel
theorem dX12_hand_20 : decode cX12_hand 20 = .ok (.getfield 23, 3) := by decide +kernel
theorem dX12_hand_23 : decode cX12_hand 23 = .ok (.iload_n 1, 1) := by decide +kernel
theorem dX12_hand_24 : decode cX12_hand 24 = .ok (.iaload, 1) := by decide +kernel
theorem dX12_hand_25 : decode cX12_hand 25 = .ok (.goto 9, 3) := by decide +kernel
theorem dX12_hand_28 : decode cX12_hand 28 = .ok (.aload_n 0, 1) := by decide +kernel
theorem dX12_hand_29 : decode cX12_hand 29 = .ok (.bipush (-13), 2) := by decide +kernel
theorem dX12_hand_31 : decode cX12_hand 31 = .ok (.invokevirtual 202, 3) := by decide +kernel
theorem dX12_hand_34 : decode cX12_hand 34 = .ok (.ireturn, 1) := by decide +kernel
theorem dX12_sortOf_0 : decode cX12_sortOf 0 = .ok (.iconst 0, 1) := by decide +kernel
theorem dX12_sortOf_1 : decode cX12_sortOf 1 = .ok (.istore_n 1, 1) := by decide +kernel
theorem dX12_sortOf_2 : decode cX12_sortOf 2 = .ok (.iload_n 1, 1) := by decide +kernel
theorem dX12_sortOf_3 : decode cX12_sortOf 3 = .ok (.aload_n 0, 1) := by decide +kernel
theorem dX12_sortOf_4 : decode cX12_sortOf 4 = .ok (.getfield 7, 3) := by decide +kernel
theorem dX12_sortOf_7 : decode cX12_sortOf 7 = .ok (.if_icmp .ge 20, 3) := by decide +kernel
theorem dX12_sortOf_10 : decode cX12_sortOf 10 = .ok (.aload_n 0, 1) := by decide +kernel
theorem dX12_sortOf_11 : decode cX12_sortOf 11 = .ok (.getfield 23, 3) := by decide +kernel
theorem dX12_sortOf_14 : decode cX12_sortOf 14 = .ok (.iload_n 1, 1) := by decide +kernel
theorem dX12_sortOf_15 : decode cX12_sortOf 15 = .ok (.iaload, 1) := by decide +kernel
theorem dX12_sortOf_16 : decode cX12_sortOf 16 = .ok (.ifCond .ge 5, 3) := by decide +kernel
theorem dX12_sortOf_19 : decode cX12_sortOf 19 = .ok (.iconst 3, 1) := by decide +kernel
theorem dX12_sortOf_20 : decode cX12_sortOf 20 = .ok (.ireturn, 1) := by decide +kernel
theorem dX12_sortOf_21 : decode cX12_sortOf 21 = .ok (.iinc 1 1, 3) := by decide +kernel
theorem dX12_sortOf_24 : decode cX12_sortOf 24 = .ok (.goto (-22), 3) := by decide +kernel
theorem dX12_sortOf_27 : decode cX12_sortOf 27 = .ok (.iconst 0, 1) := by decide +kernel
theorem dX12_sortOf_28 : decode cX12_sortOf 28 = .ok (.istore_n 1, 1) := by decide +kernel
theorem dX12_sortOf_29 : decode cX12_sortOf 29 = .ok (.iconst 0, 1) := by decide +kernel
theorem dX12_sortOf_30 : decode cX12_sortOf 30 = .ok (.istore_n 2, 1) := by decide +kernel
theorem dX12_sortOf_31 : decode cX12_sortOf 31 = .ok (.iload_n 2, 1) := by decide +kernel
theorem dX12_sortOf_32 : decode cX12_sortOf 32 = .ok (.aload_n 0, 1) := by decide +kernel
theorem dX12_sortOf_33 : decode cX12_sortOf 33 = .ok (.getfield 7, 3) := by decide +kernel
theorem dX12_sortOf_36 : decode cX12_sortOf 36 = .ok (.if_icmp .ge 23, 3) := by decide +kernel
theorem dX12_sortOf_39 : decode cX12_sortOf 39 = .ok (.aload_n 0, 1) := by decide +kernel
theorem dX12_sortOf_40 : decode cX12_sortOf 40 = .ok (.getfield 13, 3) := by decide +kernel
theorem dX12_sortOf_43 : decode cX12_sortOf 43 = .ok (.iload_n 1, 1) := by decide +kernel
theorem dX12_sortOf_44 : decode cX12_sortOf 44 = .ok (.imul, 1) := by decide +kernel
theorem dX12_sortOf_45 : decode cX12_sortOf 45 = .ok (.aload_n 0, 1) := by decide +kernel
theorem dX12_sortOf_46 : decode cX12_sortOf 46 = .ok (.getfield 23, 3) := by decide +kernel
theorem dX12_sortOf_49 : decode cX12_sortOf 49 = .ok (.iload_n 2, 1) := by decide +kernel
theorem dX12_sortOf_50 : decode cX12_sortOf 50 = .ok (.iaload, 1) := by decide +kernel
theorem dX12_sortOf_51 : decode cX12_sortOf 51 = .ok (.iadd, 1) := by decide +kernel
theorem dX12_sortOf_52 : decode cX12_sortOf 52 = .ok (.istore_n 1, 1) := by decide +kernel
theorem dX12_sortOf_53 : decode cX12_sortOf 53 = .ok (.iinc 2 1, 3) := by decide +kernel
theorem dX12_sortOf_56 : decode cX12_sortOf 56 = .ok (.goto (-25), 3) := by decide +kernel
theorem dX12_sortOf_59 : decode cX12_sortOf 59 = .ok (.aload_n 0, 1) := by decide +kernel
theorem dX12_sortOf_60 : decode cX12_sortOf 60 = .ok (.invokevirtual 208, 3) := by decide +kernel
theorem dX12_sortOf_63 : decode cX12_sortOf 63 = .ok (.iconst 0, 1) := by decide +kernel
theorem dX12_sortOf_64 : decode cX12_sortOf 64 = .ok (.istore_n 2, 1) := by decide +kernel
theorem dX12_sortOf_65 : decode cX12_sortOf 65 = .ok (.iconst 0, 1) := by decide +kernel
theorem dX12_sortOf_66 : decode cX12_sortOf 66 = .ok (.istore_n 3, 1) := by decide +kernel
theorem dX12_sortOf_67 : decode cX12_sortOf 67 = .ok (.iload_n 3, 1) := by decide +kernel
theorem dX12_sortOf_68 : decode cX12_sortOf 68 = .ok (.aload_n 0, 1) := by decide +kernel
theorem dX12_sortOf_69 : decode cX12_sortOf 69 = .ok (.getfield 164, 3) := by decide +kernel
theorem dX12_sortOf_72 : decode cX12_sortOf 72 = .ok (.if_icmp .ge 29, 3) := by decide +kernel
theorem dX12_sortOf_75 : decode cX12_sortOf 75 = .ok (.iload_n 2, 1) := by decide +kernel
theorem dX12_sortOf_76 : decode cX12_sortOf 76 = .ok (.ifCond .ne 13, 3) := by decide +kernel
theorem dX12_sortOf_79 : decode cX12_sortOf 79 = .ok (.aload_n 0, 1) := by decide +kernel
theorem dX12_sortOf_80 : decode cX12_sortOf 80 = .ok (.getfield 42, 3) := by decide +kernel
theorem dX12_sortOf_83 : decode cX12_sortOf 83 = .ok (.iload_n 3, 1) := by decide +kernel
theorem dX12_sortOf_84 : decode cX12_sortOf 84 = .ok (.iaload, 1) := by decide +kernel
theorem dX12_sortOf_85 : decode cX12_sortOf 85 = .ok (.iload_n 1, 1) := by decide +kernel
theorem dX12_sortOf_86 : decode cX12_sortOf 86 = .ok (.if_icmp .ne 7, 3) := by decide +kernel
theorem dX12_sortOf_89 : decode cX12_sortOf 89 = .ok (.iconst 1, 1) := by decide +kernel
theorem dX12_sortOf_90 : decode cX12_sortOf 90 = .ok (.goto 4, 3) := by decide +kernel
theorem dX12_sortOf_93 : decode cX12_sortOf 93 = .ok (.iconst 0, 1) := by decide +kernel
theorem dX12_sortOf_94 : decode cX12_sortOf 94 = .ok (.istore_n 2, 1) := by decide +kernel
theorem dX12_sortOf_95 : decode cX12_sortOf 95 = .ok (.iinc 3 1, 3) := by decide +kernel
theorem dX12_sortOf_98 : decode cX12_sortOf 98 = .ok (.goto (-31), 3) := by decide +kernel
theorem dX12_sortOf_101 : decode cX12_sortOf 101 = .ok (.iload_n 2, 1) := by decide +kernel
theorem dX12_sortOf_102 : decode cX12_sortOf 102 = .ok (.ifCond .ne 5, 3) := by decide +kernel
theorem dX12_sortOf_105 : decode cX12_sortOf 105 = .ok (.iconst 0, 1) := by decide +kernel
theorem dX12_sortOf_106 : decode cX12_sortOf 106 = .ok (.ireturn, 1) := by decide +kernel
theorem dX12_sortOf_107 : decode cX12_sortOf 107 = .ok (.aload_n 0, 1) := by decide +kernel
theorem dX12_sortOf_108 : decode cX12_sortOf 108 = .ok (.getfield 164, 3) := by decide +kernel
theorem dX12_sortOf_111 : decode cX12_sortOf 111 = .ok (.iconst 1, 1) := by decide +kernel
theorem dX12_sortOf_112 : decode cX12_sortOf 112 = .ok (.if_icmp .ne 5, 3) := by decide +kernel
theorem dX12_sortOf_115 : decode cX12_sortOf 115 = .ok (.iconst 4, 1) := by decide +kernel
theorem dX12_sortOf_116 : decode cX12_sortOf 116 = .ok (.ireturn, 1) := by decide +kernel
theorem dX12_sortOf_117 : decode cX12_sortOf 117 = .ok (.aload_n 0, 1) := by decide +kernel
theorem dX12_sortOf_118 : decode cX12_sortOf 118 = .ok (.invokevirtual 211, 3) := by decide +kernel
theorem dX12_sortOf_121 : decode cX12_sortOf 121 = .ok (.iconst 0, 1) := by decide +kernel
theorem dX12_sortOf_122 : decode cX12_sortOf 122 = .ok (.istore_n 3, 1) := by decide +kernel
theorem dX12_sortOf_123 : decode cX12_sortOf 123 = .ok (.iload_n 3, 1) := by decide +kernel
theorem dX12_sortOf_124 : decode cX12_sortOf 124 = .ok (.aload_n 0, 1) := by decide +kernel
theorem dX12_sortOf_125 : decode cX12_sortOf 125 = .ok (.getfield 164, 3) := by decide +kernel
theorem dX12_sortOf_128 : decode cX12_sortOf 128 = .ok (.if_icmp .ge 50, 3) := by decide +kernel
theorem dX12_sortOf_131 : decode cX12_sortOf 131 = .ok (.iconst 0, 1) := by decide +kernel
theorem dX12_sortOf_132 : decode cX12_sortOf 132 = .ok (.istore 4, 2) := by decide +kernel
theorem dX12_sortOf_134 : decode cX12_sortOf 134 = .ok (.iload 4, 2) := by decide +kernel
theorem dX12_sortOf_136 : decode cX12_sortOf 136 = .ok (.iload_n 3, 1) := by decide +kernel
theorem dX12_sortOf_137 : decode cX12_sortOf 137 = .ok (.if_icmp .ge 35, 3) := by decide +kernel
theorem dX12_sortOf_140 : decode cX12_sortOf 140 = .ok (.aload_n 0, 1) := by decide +kernel
theorem dX12_sortOf_141 : decode cX12_sortOf 141 = .ok (.aload_n 0, 1) := by decide +kernel
theorem dX12_sortOf_142 : decode cX12_sortOf 142 = .ok (.getfield 42, 3) := by decide +kernel
theorem dX12_sortOf_145 : decode cX12_sortOf 145 = .ok (.iload_n 3, 1) := by decide +kernel
theorem dX12_sortOf_146 : decode cX12_sortOf 146 = .ok (.iaload, 1) := by decide +kernel
theorem dX12_sortOf_147 : decode cX12_sortOf 147 = .ok (.invokevirtual 160, 3) := by decide +kernel
theorem dX12_sortOf_150 : decode cX12_sortOf 150 = .ok (.aload_n 0, 1) := by decide +kernel
theorem dX12_sortOf_151 : decode cX12_sortOf 151 = .ok (.aload_n 0, 1) := by decide +kernel
theorem dX12_sortOf_152 : decode cX12_sortOf 152 = .ok (.getfield 42, 3) := by decide +kernel
theorem dX12_sortOf_155 : decode cX12_sortOf 155 = .ok (.iload 4, 2) := by decide +kernel
theorem dX12_sortOf_157 : decode cX12_sortOf 157 = .ok (.iaload, 1) := by decide +kernel
theorem dX12_sortOf_158 : decode cX12_sortOf 158 = .ok (.invokevirtual 160, 3) := by decide +kernel
theorem dX12_sortOf_161 : decode cX12_sortOf 161 = .ok (.if_icmp .ne 5, 3) := by decide +kernel
theorem dX12_sortOf_164 : decode cX12_sortOf 164 = .ok (.iconst 1, 1) := by decide +kernel
theorem dX12_sortOf_165 : decode cX12_sortOf 165 = .ok (.ireturn, 1) := by decide +kernel
theorem dX12_sortOf_166 : decode cX12_sortOf 166 = .ok (.iinc 4 1, 3) := by decide +kernel
theorem dX12_sortOf_169 : decode cX12_sortOf 169 = .ok (.goto (-35), 3) := by decide +kernel
theorem dX12_sortOf_172 : decode cX12_sortOf 172 = .ok (.iinc 3 1, 3) := by decide +kernel
theorem dX12_sortOf_175 : decode cX12_sortOf 175 = .ok (.goto (-52), 3) := by decide +kernel
theorem dX12_sortOf_178 : decode cX12_sortOf 178 = .ok (.iconst 2, 1) := by decide +kernel
theorem dX12_sortOf_179 : decode cX12_sortOf 179 = .ok (.ireturn, 1) := by decide +kernel
theorem dX12_sort_0 : decode cX12_sort 0 = .ok (.aload_n 0, 1) := by decide +kernel
theorem dX12_sort_1 : decode cX12_sort 1 = .ok (.iconst 0, 1) := by decide +kernel
theorem dX12_sort_2 : decode cX12_sort 2 = .ok (.putfield 139, 3) := by decide +kernel
theorem dX12_sort_5 : decode cX12_sort 5 = .ok (.aload_n 0, 1) := by decide +kernel
theorem dX12_sort_6 : decode cX12_sort 6 = .ok (.invokevirtual 205, 3) := by decide +kernel
theorem dX12_sort_9 : decode cX12_sort 9 = .ok (.ireturn, 1) := by decide +kernel
theorem dX12_answer_0 : decode cX12_answer 0 = .ok (.aload_n 0, 1) := by decide +kernel
theorem dX12_answer_1 : decode cX12_answer 1 = .ok (.iconst 0, 1) := by decide +kernel
theorem dX12_answer_2 : decode cX12_answer 2 = .ok (.putfield 139, 3) := by decide +kernel
theorem dX12_answer_5 : decode cX12_answer 5 = .ok (.aload_n 0, 1) := by decide +kernel
theorem dX12_answer_6 : decode cX12_answer 6 = .ok (.iload_n 1, 1) := by decide +kernel
theorem dX12_answer_7 : decode cX12_answer 7 = .ok (.invokevirtual 199, 3) := by decide +kernel
theorem dX12_answer_10 : decode cX12_answer 10 = .ok (.ifCond .eq 11, 3) := by decide +kernel
theorem dX12_answer_13 : decode cX12_answer 13 = .ok (.aload_n 0, 1) := by decide +kernel
theorem dX12_answer_14 : decode cX12_answer 14 = .ok (.iload_n 2, 1) := by decide +kernel
theorem dX12_answer_15 : decode cX12_answer 15 = .ok (.invokevirtual 199, 3) := by decide +kernel
theorem dX12_answer_18 : decode cX12_answer 18 = .ok (.ifCond .ne 5, 3) := by decide +kernel
theorem dX12_answer_21 : decode cX12_answer 21 = .ok (.iconst (-1), 1) := by decide +kernel
theorem dX12_answer_22 : decode cX12_answer 22 = .ok (.ireturn, 1) := by decide +kernel
theorem dX12_answer_23 : decode cX12_answer 23 = .ok (.aload_n 0, 1) := by decide +kernel
theorem dX12_answer_24 : decode cX12_answer 24 = .ok (.iload_n 1, 1) := by decide +kernel
theorem dX12_answer_25 : decode cX12_answer 25 = .ok (.invokevirtual 214, 3) := by decide +kernel
theorem dX12_answer_28 : decode cX12_answer 28 = .ok (.aload_n 0, 1) := by decide +kernel
theorem dX12_answer_29 : decode cX12_answer 29 = .ok (.iload_n 2, 1) := by decide +kernel
theorem dX12_answer_30 : decode cX12_answer 30 = .ok (.invokevirtual 160, 3) := by decide +kernel
theorem dX12_answer_33 : decode cX12_answer 33 = .ok (.ireturn, 1) := by decide +kernel
theorem dX12_reply_0 : decode cX12_reply 0 = .ok (.aload_n 0, 1) := by decide +kernel
theorem dX12_reply_1 : decode cX12_reply 1 = .ok (.iconst 0, 1) := by decide +kernel
theorem dX12_reply_2 : decode cX12_reply 2 = .ok (.putfield 139, 3) := by decide +kernel
theorem dX12_reply_5 : decode cX12_reply 5 = .ok (.aload_n 0, 1) := by decide +kernel
theorem dX12_reply_6 : decode cX12_reply 6 = .ok (.iload_n 1, 1) := by decide +kernel
theorem dX12_reply_7 : decode cX12_reply 7 = .ok (.invokevirtual 199, 3) := by decide +kernel
theorem dX12_reply_10 : decode cX12_reply 10 = .ok (.ifCond .ne 5, 3) := by decide +kernel
theorem dX12_reply_13 : decode cX12_reply 13 = .ok (.iconst (-1), 1) := by decide +kernel
theorem dX12_reply_14 : decode cX12_reply 14 = .ok (.ireturn, 1) := by decide +kernel
theorem dX12_reply_15 : decode cX12_reply 15 = .ok (.aload_n 0, 1) := by decide +kernel
theorem dX12_reply_16 : decode cX12_reply 16 = .ok (.invokevirtual 211, 3) := by decide +kernel
theorem dX12_reply_19 : decode cX12_reply 19 = .ok (.aload_n 0, 1) := by decide +kernel
theorem dX12_reply_20 : decode cX12_reply 20 = .ok (.iload_n 1, 1) := by decide +kernel
theorem dX12_reply_21 : decode cX12_reply 21 = .ok (.invokevirtual 160, 3) := by decide +kernel
theorem dX12_reply_24 : decode cX12_reply 24 = .ok (.ireturn, 1) := by decide +kernel
theorem dX12_quarrels_0 : decode cX12_quarrels 0 = .ok (.iconst 0, 1) := by decide +kernel
theorem dX12_quarrels_1 : decode cX12_quarrels 1 = .ok (.istore_n 2, 1) := by decide +kernel
theorem dX12_quarrels_2 : decode cX12_quarrels 2 = .ok (.iload_n 2, 1) := by decide +kernel
theorem dX12_quarrels_3 : decode cX12_quarrels 3 = .ok (.aload_n 0, 1) := by decide +kernel
theorem dX12_quarrels_4 : decode cX12_quarrels 4 = .ok (.getfield 16, 3) := by decide +kernel
theorem dX12_quarrels_7 : decode cX12_quarrels 7 = .ok (.if_icmp .ge 33, 3) := by decide +kernel
theorem dX12_quarrels_10 : decode cX12_quarrels 10 = .ok (.aload_n 0, 1) := by decide +kernel
theorem dX12_quarrels_11 : decode cX12_quarrels 11 = .ok (.getfield 45, 3) := by decide +kernel
theorem dX12_quarrels_14 : decode cX12_quarrels 14 = .ok (.iload_n 2, 1) := by decide +kernel
theorem dX12_quarrels_15 : decode cX12_quarrels 15 = .ok (.aload_n 0, 1) := by decide +kernel
theorem dX12_quarrels_16 : decode cX12_quarrels 16 = .ok (.iload_n 2, 1) := by decide +kernel
theorem dX12_quarrels_17 : decode cX12_quarrels 17 = .ok (.invokevirtual 167, 3) := by decide +kernel
theorem dX12_quarrels_20 : decode cX12_quarrels 20 = .ok (.ifCond .eq 12, 3) := by decide +kernel
theorem dX12_quarrels_23 : decode cX12_quarrels 23 = .ok (.aload_n 0, 1) := by decide +kernel
theorem dX12_quarrels_24 : decode cX12_quarrels 24 = .ok (.iload_n 2, 1) := by decide +kernel
theorem dX12_quarrels_25 : decode cX12_quarrels 25 = .ok (.iload_n 1, 1) := by decide +kernel
theorem dX12_quarrels_26 : decode cX12_quarrels 26 = .ok (.invokevirtual 174, 3) := by decide +kernel
theorem dX12_quarrels_29 : decode cX12_quarrels 29 = .ok (.goto 4, 3) := by decide +kernel
theorem dX12_quarrels_32 : decode cX12_quarrels 32 = .ok (.iconst (-1), 1) := by decide +kernel
theorem dX12_quarrels_33 : decode cX12_quarrels 33 = .ok (.iastore, 1) := by decide +kernel
theorem dX12_quarrels_34 : decode cX12_quarrels 34 = .ok (.iinc 2 1, 3) := by decide +kernel
theorem dX12_quarrels_37 : decode cX12_quarrels 37 = .ok (.goto (-35), 3) := by decide +kernel
theorem dX12_quarrels_40 : decode cX12_quarrels 40 = .ok (.iconst (-1), 1) := by decide +kernel
theorem dX12_quarrels_41 : decode cX12_quarrels 41 = .ok (.istore_n 2, 1) := by decide +kernel
theorem dX12_quarrels_42 : decode cX12_quarrels 42 = .ok (.iconst 0, 1) := by decide +kernel
theorem dX12_quarrels_43 : decode cX12_quarrels 43 = .ok (.istore_n 3, 1) := by decide +kernel
theorem dX12_quarrels_44 : decode cX12_quarrels 44 = .ok (.iload_n 3, 1) := by decide +kernel
theorem dX12_quarrels_45 : decode cX12_quarrels 45 = .ok (.iconst 1, 1) := by decide +kernel
theorem dX12_quarrels_46 : decode cX12_quarrels 46 = .ok (.iload_n 1, 1) := by decide +kernel
theorem dX12_quarrels_47 : decode cX12_quarrels 47 = .ok (.ishl, 1) := by decide +kernel
theorem dX12_quarrels_48 : decode cX12_quarrels 48 = .ok (.if_icmp .ge 97, 3) := by decide +kernel
theorem dX12_quarrels_51 : decode cX12_quarrels 51 = .ok (.iload_n 2, 1) := by decide +kernel
theorem dX12_quarrels_52 : decode cX12_quarrels 52 = .ok (.ifCond .lt 17, 3) := by decide +kernel
theorem dX12_quarrels_55 : decode cX12_quarrels 55 = .ok (.iload_n 3, 1) := by decide +kernel
theorem dX12_quarrels_56 : decode cX12_quarrels 56 = .ok (.invokestatic 177, 3) := by decide +kernel
theorem dX12_quarrels_59 : decode cX12_quarrels 59 = .ok (.iload_n 2, 1) := by decide +kernel
theorem dX12_quarrels_60 : decode cX12_quarrels 60 = .ok (.invokestatic 177, 3) := by decide +kernel
theorem dX12_quarrels_63 : decode cX12_quarrels 63 = .ok (.if_icmp .lt 6, 3) := by decide +kernel
theorem dX12_quarrels_66 : decode cX12_quarrels 66 = .ok (.goto 73, 3) := by decide +kernel
theorem dX12_quarrels_69 : decode cX12_quarrels 69 = .ok (.iconst 1, 1) := by decide +kernel
theorem dX12_quarrels_70 : decode cX12_quarrels 70 = .ok (.istore 4, 2) := by decide +kernel
theorem dX12_quarrels_72 : decode cX12_quarrels 72 = .ok (.iconst 0, 1) := by decide +kernel
theorem dX12_quarrels_73 : decode cX12_quarrels 73 = .ok (.istore 5, 2) := by decide +kernel
theorem dX12_quarrels_75 : decode cX12_quarrels 75 = .ok (.iload 5, 2) := by decide +kernel
theorem dX12_quarrels_77 : decode cX12_quarrels 77 = .ok (.aload_n 0, 1) := by decide +kernel
theorem dX12_quarrels_78 : decode cX12_quarrels 78 = .ok (.getfield 16, 3) := by decide +kernel
theorem dX12_quarrels_81 : decode cX12_quarrels 81 = .ok (.if_icmp .ge 51, 3) := by decide +kernel
theorem dX12_quarrels_84 : decode cX12_quarrels 84 = .ok (.iload 4, 2) := by decide +kernel
theorem dX12_quarrels_86 : decode cX12_quarrels 86 = .ok (.ifCond .eq 46, 3) := by decide +kernel
theorem dX12_quarrels_89 : decode cX12_quarrels 89 = .ok (.aload_n 0, 1) := by decide +kernel
theorem dX12_quarrels_90 : decode cX12_quarrels 90 = .ok (.getfield 45, 3) := by decide +kernel
theorem dX12_quarrels_93 : decode cX12_quarrels 93 = .ok (.iload 5, 2) := by decide +kernel
theorem dX12_quarrels_95 : decode cX12_quarrels 95 = .ok (.iaload, 1) := by decide +kernel
theorem dX12_quarrels_96 : decode cX12_quarrels 96 = .ok (.iconst (-1), 1) := by decide +kernel
theorem dX12_quarrels_97 : decode cX12_quarrels 97 = .ok (.if_icmp .eq 22, 3) := by decide +kernel
theorem dX12_quarrels_100 : decode cX12_quarrels 100 = .ok (.aload_n 0, 1) := by decide +kernel
theorem dX12_quarrels_101 : decode cX12_quarrels 101 = .ok (.getfield 45, 3) := by decide +kernel
theorem dX12_quarrels_104 : decode cX12_quarrels 104 = .ok (.iload 5, 2) := by decide +kernel
theorem dX12_quarrels_106 : decode cX12_quarrels 106 = .ok (.iaload, 1) := by decide +kernel
theorem dX12_quarrels_107 : decode cX12_quarrels 107 = .ok (.iload_n 3, 1) := by decide +kernel
theorem dX12_quarrels_108 : decode cX12_quarrels 108 = .ok (.iand, 1) := by decide +kernel
theorem dX12_quarrels_109 : decode cX12_quarrels 109 = .ok (.invokestatic 177, 3) := by decide +kernel
theorem dX12_quarrels_112 : decode cX12_quarrels 112 = .ok (.aload_n 0, 1) := by decide +kernel
theorem dX12_quarrels_113 : decode cX12_quarrels 113 = .ok (.getfield 180, 3) := by decide +kernel
theorem dX12_quarrels_116 : decode cX12_quarrels 116 = .ok (.if_icmp .le 7, 3) := by decide +kernel
theorem dX12_quarrels_119 : decode cX12_quarrels 119 = .ok (.iconst 1, 1) := by decide +kernel
theorem dX12_quarrels_120 : decode cX12_quarrels 120 = .ok (.goto 4, 3) := by decide +kernel
theorem dX12_quarrels_123 : decode cX12_quarrels 123 = .ok (.iconst 0, 1) := by decide +kernel
theorem dX12_quarrels_124 : decode cX12_quarrels 124 = .ok (.istore 4, 2) := by decide +kernel
theorem dX12_quarrels_126 : decode cX12_quarrels 126 = .ok (.iinc 5 1, 3) := by decide +kernel
theorem dX12_quarrels_129 : decode cX12_quarrels 129 = .ok (.goto (-54), 3) := by decide +kernel
theorem dX12_quarrels_132 : decode cX12_quarrels 132 = .ok (.iload 4, 2) := by decide +kernel
theorem dX12_quarrels_134 : decode cX12_quarrels 134 = .ok (.ifCond .eq 5, 3) := by decide +kernel
theorem dX12_quarrels_137 : decode cX12_quarrels 137 = .ok (.iload_n 3, 1) := by decide +kernel
theorem dX12_quarrels_138 : decode cX12_quarrels 138 = .ok (.istore_n 2, 1) := by decide +kernel
theorem dX12_quarrels_139 : decode cX12_quarrels 139 = .ok (.iinc 3 1, 3) := by decide +kernel
theorem dX12_quarrels_142 : decode cX12_quarrels 142 = .ok (.goto (-98), 3) := by decide +kernel
theorem dX12_quarrels_145 : decode cX12_quarrels 145 = .ok (.aload_n 0, 1) := by decide +kernel
theorem dX12_quarrels_146 : decode cX12_quarrels 146 = .ok (.iconst 0, 1) := by decide +kernel
theorem dX12_quarrels_147 : decode cX12_quarrels 147 = .ok (.putfield 36, 3) := by decide +kernel
theorem dX12_quarrels_150 : decode cX12_quarrels 150 = .ok (.iconst 0, 1) := by decide +kernel
theorem dX12_quarrels_151 : decode cX12_quarrels 151 = .ok (.istore_n 3, 1) := by decide +kernel
theorem dX12_quarrels_152 : decode cX12_quarrels 152 = .ok (.iload_n 3, 1) := by decide +kernel
theorem dX12_quarrels_153 : decode cX12_quarrels 153 = .ok (.iload_n 1, 1) := by decide +kernel
theorem dX12_quarrels_154 : decode cX12_quarrels 154 = .ok (.if_icmp .ge 40, 3) := by decide +kernel
theorem dX12_quarrels_157 : decode cX12_quarrels 157 = .ok (.iload_n 2, 1) := by decide +kernel
theorem dX12_quarrels_158 : decode cX12_quarrels 158 = .ok (.iload_n 3, 1) := by decide +kernel
theorem dX12_quarrels_159 : decode cX12_quarrels 159 = .ok (.ishr, 1) := by decide +kernel
theorem dX12_quarrels_160 : decode cX12_quarrels 160 = .ok (.iconst 1, 1) := by decide +kernel
theorem dX12_quarrels_161 : decode cX12_quarrels 161 = .ok (.iand, 1) := by decide +kernel
theorem dX12_quarrels_162 : decode cX12_quarrels 162 = .ok (.ifCond .ne 6, 3) := by decide +kernel
theorem dX12_quarrels_165 : decode cX12_quarrels 165 = .ok (.goto 23, 3) := by decide +kernel
theorem dX12_quarrels_168 : decode cX12_quarrels 168 = .ok (.aload_n 0, 1) := by decide +kernel
theorem dX12_quarrels_169 : decode cX12_quarrels 169 = .ok (.getfield 33, 3) := by decide +kernel
theorem dX12_quarrels_172 : decode cX12_quarrels 172 = .ok (.aload_n 0, 1) := by decide +kernel
theorem dX12_quarrels_173 : decode cX12_quarrels 173 = .ok (.getfield 36, 3) := by decide +kernel
theorem dX12_quarrels_176 : decode cX12_quarrels 176 = .ok (.iload_n 3, 1) := by decide +kernel
theorem dX12_quarrels_177 : decode cX12_quarrels 177 = .ok (.iastore, 1) := by decide +kernel
theorem dX12_quarrels_178 : decode cX12_quarrels 178 = .ok (.aload_n 0, 1) := by decide +kernel
theorem dX12_quarrels_179 : decode cX12_quarrels 179 = .ok (.dup, 1) := by decide +kernel
theorem dX12_quarrels_180 : decode cX12_quarrels 180 = .ok (.getfield 36, 3) := by decide +kernel
theorem dX12_quarrels_183 : decode cX12_quarrels 183 = .ok (.iconst 1, 1) := by decide +kernel
theorem dX12_quarrels_184 : decode cX12_quarrels 184 = .ok (.iadd, 1) := by decide +kernel
theorem dX12_quarrels_185 : decode cX12_quarrels 185 = .ok (.putfield 36, 3) := by decide +kernel
theorem dX12_quarrels_188 : decode cX12_quarrels 188 = .ok (.iinc 3 1, 3) := by decide +kernel
theorem dX12_quarrels_191 : decode cX12_quarrels 191 = .ok (.goto (-39), 3) := by decide +kernel
theorem dX12_quarrels_194 : decode cX12_quarrels 194 = .ok (.return_, 1) := by decide +kernel
theorem dX12_tell_0 : decode cX12_tell 0 = .ok (.aload_n 0, 1) := by decide +kernel
theorem dX12_tell_1 : decode cX12_tell 1 = .ok (.iconst 0, 1) := by decide +kernel
theorem dX12_tell_2 : decode cX12_tell 2 = .ok (.putfield 139, 3) := by decide +kernel
theorem dX12_tell_5 : decode cX12_tell 5 = .ok (.aload_n 0, 1) := by decide +kernel
theorem dX12_tell_6 : decode cX12_tell 6 = .ok (.iload_n 1, 1) := by decide +kernel
theorem dX12_tell_7 : decode cX12_tell 7 = .ok (.invokevirtual 217, 3) := by decide +kernel
theorem dX12_tell_10 : decode cX12_tell 10 = .ok (.ifCond .ne 5, 3) := by decide +kernel
theorem dX12_tell_13 : decode cX12_tell 13 = .ok (.iconst (-1), 1) := by decide +kernel
theorem dX12_tell_14 : decode cX12_tell 14 = .ok (.ireturn, 1) := by decide +kernel
theorem dX12_tell_15 : decode cX12_tell 15 = .ok (.aload_n 0, 1) := by decide +kernel
theorem dX12_tell_16 : decode cX12_tell 16 = .ok (.getfield 171, 3) := by decide +kernel
theorem dX12_tell_19 : decode cX12_tell 19 = .ok (.bipush 10, 2) := by decide +kernel
theorem dX12_tell_21 : decode cX12_tell 21 = .ok (.if_icmp .ne 6, 3) := by decide +kernel
theorem dX12_tell_24 : decode cX12_tell 24 = .ok (.bipush (-2), 2) := by decide +kernel
theorem dX12_tell_26 : decode cX12_tell 26 = .ok (.ireturn, 1) := by decide +kernel
theorem dX12_tell_27 : decode cX12_tell 27 = .ok (.iconst 0, 1) := by decide +kernel
theorem dX12_tell_28 : decode cX12_tell 28 = .ok (.istore_n 2, 1) := by decide +kernel
theorem dX12_tell_29 : decode cX12_tell 29 = .ok (.iload_n 2, 1) := by decide +kernel
theorem dX12_tell_30 : decode cX12_tell 30 = .ok (.aload_n 0, 1) := by decide +kernel
theorem dX12_tell_31 : decode cX12_tell 31 = .ok (.getfield 7, 3) := by decide +kernel
theorem dX12_tell_34 : decode cX12_tell 34 = .ok (.if_icmp .ge 28, 3) := by decide +kernel
theorem dX12_tell_37 : decode cX12_tell 37 = .ok (.aload_n 0, 1) := by decide +kernel
theorem dX12_tell_38 : decode cX12_tell 38 = .ok (.getfield 27, 3) := by decide +kernel
theorem dX12_tell_41 : decode cX12_tell 41 = .ok (.iconst 5, 1) := by decide +kernel
theorem dX12_tell_42 : decode cX12_tell 42 = .ok (.aload_n 0, 1) := by decide +kernel
theorem dX12_tell_43 : decode cX12_tell 43 = .ok (.getfield 171, 3) := by decide +kernel
theorem dX12_tell_46 : decode cX12_tell 46 = .ok (.imul, 1) := by decide +kernel
theorem dX12_tell_47 : decode cX12_tell 47 = .ok (.iload_n 2, 1) := by decide +kernel
theorem dX12_tell_48 : decode cX12_tell 48 = .ok (.iadd, 1) := by decide +kernel
theorem dX12_tell_49 : decode cX12_tell 49 = .ok (.aload_n 0, 1) := by decide +kernel
theorem dX12_tell_50 : decode cX12_tell 50 = .ok (.getfield 23, 3) := by decide +kernel
theorem dX12_tell_53 : decode cX12_tell 53 = .ok (.iload_n 2, 1) := by decide +kernel
theorem dX12_tell_54 : decode cX12_tell 54 = .ok (.iaload, 1) := by decide +kernel
theorem dX12_tell_55 : decode cX12_tell 55 = .ok (.iastore, 1) := by decide +kernel
theorem dX12_tell_56 : decode cX12_tell 56 = .ok (.iinc 2 1, 3) := by decide +kernel
theorem dX12_tell_59 : decode cX12_tell 59 = .ok (.goto (-30), 3) := by decide +kernel
theorem dX12_tell_62 : decode cX12_tell 62 = .ok (.aload_n 0, 1) := by decide +kernel
theorem dX12_tell_63 : decode cX12_tell 63 = .ok (.getfield 30, 3) := by decide +kernel
theorem dX12_tell_66 : decode cX12_tell 66 = .ok (.aload_n 0, 1) := by decide +kernel
theorem dX12_tell_67 : decode cX12_tell 67 = .ok (.getfield 171, 3) := by decide +kernel
theorem dX12_tell_70 : decode cX12_tell 70 = .ok (.iload_n 1, 1) := by decide +kernel
theorem dX12_tell_71 : decode cX12_tell 71 = .ok (.iastore, 1) := by decide +kernel
theorem dX12_tell_72 : decode cX12_tell 72 = .ok (.aload_n 0, 1) := by decide +kernel
theorem dX12_tell_73 : decode cX12_tell 73 = .ok (.dup, 1) := by decide +kernel
theorem dX12_tell_74 : decode cX12_tell 74 = .ok (.getfield 171, 3) := by decide +kernel
theorem dX12_tell_77 : decode cX12_tell 77 = .ok (.iconst 1, 1) := by decide +kernel
theorem dX12_tell_78 : decode cX12_tell 78 = .ok (.iadd, 1) := by decide +kernel
theorem dX12_tell_79 : decode cX12_tell 79 = .ok (.putfield 171, 3) := by decide +kernel
theorem dX12_tell_82 : decode cX12_tell 82 = .ok (.aload_n 0, 1) := by decide +kernel
theorem dX12_tell_83 : decode cX12_tell 83 = .ok (.invokevirtual 208, 3) := by decide +kernel
theorem dX12_tell_86 : decode cX12_tell 86 = .ok (.aload_n 0, 1) := by decide +kernel
theorem dX12_tell_87 : decode cX12_tell 87 = .ok (.getfield 164, 3) := by decide +kernel
theorem dX12_tell_90 : decode cX12_tell 90 = .ok (.ifCond .le 8, 3) := by decide +kernel
theorem dX12_tell_93 : decode cX12_tell 93 = .ok (.aload_n 0, 1) := by decide +kernel
theorem dX12_tell_94 : decode cX12_tell 94 = .ok (.getfield 164, 3) := by decide +kernel
theorem dX12_tell_97 : decode cX12_tell 97 = .ok (.ireturn, 1) := by decide +kernel
theorem dX12_tell_98 : decode cX12_tell 98 = .ok (.aload_n 0, 1) := by decide +kernel
theorem dX12_tell_99 : decode cX12_tell 99 = .ok (.aload_n 0, 1) := by decide +kernel
theorem dX12_tell_100 : decode cX12_tell 100 = .ok (.getfield 171, 3) := by decide +kernel
theorem dX12_tell_103 : decode cX12_tell 103 = .ok (.invokevirtual 220, 3) := by decide +kernel
theorem dX12_tell_106 : decode cX12_tell 106 = .ok (.aload_n 0, 1) := by decide +kernel
theorem dX12_tell_107 : decode cX12_tell 107 = .ok (.dup, 1) := by decide +kernel
theorem dX12_tell_108 : decode cX12_tell 108 = .ok (.getfield 171, 3) := by decide +kernel
theorem dX12_tell_111 : decode cX12_tell 111 = .ok (.iconst 1, 1) := by decide +kernel
theorem dX12_tell_112 : decode cX12_tell 112 = .ok (.isub, 1) := by decide +kernel
theorem dX12_tell_113 : decode cX12_tell 113 = .ok (.putfield 171, 3) := by decide +kernel
theorem dX12_tell_116 : decode cX12_tell 116 = .ok (.bipush (-4), 2) := by decide +kernel
theorem dX12_tell_118 : decode cX12_tell 118 = .ok (.ireturn, 1) := by decide +kernel
theorem dX12_undo_0 : decode cX12_undo 0 = .ok (.aload_n 0, 1) := by decide +kernel
theorem dX12_undo_1 : decode cX12_undo 1 = .ok (.iconst 0, 1) := by decide +kernel
theorem dX12_undo_2 : decode cX12_undo 2 = .ok (.putfield 139, 3) := by decide +kernel
theorem dX12_undo_5 : decode cX12_undo 5 = .ok (.aload_n 0, 1) := by decide +kernel
theorem dX12_undo_6 : decode cX12_undo 6 = .ok (.getfield 171, 3) := by decide +kernel
theorem dX12_undo_9 : decode cX12_undo 9 = .ok (.ifCond .ne 5, 3) := by decide +kernel
theorem dX12_undo_12 : decode cX12_undo 12 = .ok (.iconst (-1), 1) := by decide +kernel
theorem dX12_undo_13 : decode cX12_undo 13 = .ok (.ireturn, 1) := by decide +kernel
theorem dX12_undo_14 : decode cX12_undo 14 = .ok (.aload_n 0, 1) := by decide +kernel
theorem dX12_undo_15 : decode cX12_undo 15 = .ok (.dup, 1) := by decide +kernel
theorem dX12_undo_16 : decode cX12_undo 16 = .ok (.getfield 171, 3) := by decide +kernel
theorem dX12_undo_19 : decode cX12_undo 19 = .ok (.iconst 1, 1) := by decide +kernel
theorem dX12_undo_20 : decode cX12_undo 20 = .ok (.isub, 1) := by decide +kernel
theorem dX12_undo_21 : decode cX12_undo 21 = .ok (.putfield 171, 3) := by decide +kernel
theorem dX12_undo_24 : decode cX12_undo 24 = .ok (.aload_n 0, 1) := by decide +kernel
theorem dX12_undo_25 : decode cX12_undo 25 = .ok (.getfield 171, 3) := by decide +kernel
theorem dX12_undo_28 : decode cX12_undo 28 = .ok (.ireturn, 1) := by decide +kernel
theorem dX12_quarrel_0 : decode cX12_quarrel 0 = .ok (.aload_n 0, 1) := by decide +kernel
theorem dX12_quarrel_1 : decode cX12_quarrel 1 = .ok (.iconst 0, 1) := by decide +kernel
theorem dX12_quarrel_2 : decode cX12_quarrel 2 = .ok (.putfield 139, 3) := by decide +kernel
theorem dX12_quarrel_5 : decode cX12_quarrel 5 = .ok (.aload_n 0, 1) := by decide +kernel
theorem dX12_quarrel_6 : decode cX12_quarrel 6 = .ok (.getfield 36, 3) := by decide +kernel
theorem dX12_quarrel_9 : decode cX12_quarrel 9 = .ok (.ifCond .ge 5, 3) := by decide +kernel
theorem dX12_quarrel_12 : decode cX12_quarrel 12 = .ok (.iconst (-1), 1) := by decide +kernel
theorem dX12_quarrel_13 : decode cX12_quarrel 13 = .ok (.ireturn, 1) := by decide +kernel
theorem dX12_quarrel_14 : decode cX12_quarrel 14 = .ok (.iload_n 1, 1) := by decide +kernel
theorem dX12_quarrel_15 : decode cX12_quarrel 15 = .ok (.iconst (-1), 1) := by decide +kernel
theorem dX12_quarrel_16 : decode cX12_quarrel 16 = .ok (.if_icmp .ne 10, 3) := by decide +kernel
theorem dX12_quarrel_19 : decode cX12_quarrel 19 = .ok (.aload_n 0, 1) := by decide +kernel
theorem dX12_quarrel_20 : decode cX12_quarrel 20 = .ok (.getfield 36, 3) := by decide +kernel
theorem dX12_quarrel_23 : decode cX12_quarrel 23 = .ok (.goto 27, 3) := by decide +kernel
theorem dX12_quarrel_26 : decode cX12_quarrel 26 = .ok (.iload_n 1, 1) := by decide +kernel
theorem dX12_quarrel_27 : decode cX12_quarrel 27 = .ok (.iconst 0, 1) := by decide +kernel
theorem dX12_quarrel_28 : decode cX12_quarrel 28 = .ok (.aload_n 0, 1) := by decide +kernel
theorem dX12_quarrel_29 : decode cX12_quarrel 29 = .ok (.getfield 36, 3) := by decide +kernel
theorem dX12_quarrel_32 : decode cX12_quarrel 32 = .ok (.iconst 1, 1) := by decide +kernel
theorem dX12_quarrel_33 : decode cX12_quarrel 33 = .ok (.isub, 1) := by decide +kernel
theorem dX12_quarrel_34 : decode cX12_quarrel 34 = .ok (.invokestatic 142, 3) := by decide +kernel
theorem dX12_quarrel_37 : decode cX12_quarrel 37 = .ok (.ifCond .eq 12, 3) := by decide +kernel
theorem dX12_quarrel_40 : decode cX12_quarrel 40 = .ok (.aload_n 0, 1) := by decide +kernel
theorem dX12_quarrel_41 : decode cX12_quarrel 41 = .ok (.getfield 33, 3) := by decide +kernel
theorem dX12_quarrel_44 : decode cX12_quarrel 44 = .ok (.iload_n 1, 1) := by decide +kernel
theorem dX12_quarrel_45 : decode cX12_quarrel 45 = .ok (.iaload, 1) := by decide +kernel
theorem dX12_quarrel_46 : decode cX12_quarrel 46 = .ok (.goto 4, 3) := by decide +kernel
theorem dX12_quarrel_49 : decode cX12_quarrel 49 = .ok (.iconst (-1), 1) := by decide +kernel
theorem dX12_quarrel_50 : decode cX12_quarrel 50 = .ok (.ireturn, 1) := by decide +kernel
theorem dX12_turn_0 : decode cX12_turn 0 = .ok (.aload_n 0, 1) := by decide +kernel
theorem dX12_turn_1 : decode cX12_turn 1 = .ok (.iconst 0, 1) := by decide +kernel
theorem dX12_turn_2 : decode cX12_turn 2 = .ok (.putfield 139, 3) := by decide +kernel
theorem dX12_turn_5 : decode cX12_turn 5 = .ok (.iload_n 1, 1) := by decide +kernel
theorem dX12_turn_6 : decode cX12_turn 6 = .ok (.iconst 0, 1) := by decide +kernel
theorem dX12_turn_7 : decode cX12_turn 7 = .ok (.aload_n 0, 1) := by decide +kernel
theorem dX12_turn_8 : decode cX12_turn 8 = .ok (.getfield 171, 3) := by decide +kernel
theorem dX12_turn_11 : decode cX12_turn 11 = .ok (.iconst 1, 1) := by decide +kernel
theorem dX12_turn_12 : decode cX12_turn 12 = .ok (.isub, 1) := by decide +kernel
theorem dX12_turn_13 : decode cX12_turn 13 = .ok (.invokestatic 142, 3) := by decide +kernel
theorem dX12_turn_16 : decode cX12_turn 16 = .ok (.ifCond .ne 5, 3) := by decide +kernel
theorem dX12_turn_19 : decode cX12_turn 19 = .ok (.iconst (-1), 1) := by decide +kernel
theorem dX12_turn_20 : decode cX12_turn 20 = .ok (.ireturn, 1) := by decide +kernel
theorem dX12_turn_21 : decode cX12_turn 21 = .ok (.iload_n 2, 1) := by decide +kernel
theorem dX12_turn_22 : decode cX12_turn 22 = .ok (.ifCond .ne 10, 3) := by decide +kernel
theorem dX12_turn_25 : decode cX12_turn 25 = .ok (.aload_n 0, 1) := by decide +kernel
theorem dX12_turn_26 : decode cX12_turn 26 = .ok (.getfield 30, 3) := by decide +kernel
theorem dX12_turn_29 : decode cX12_turn 29 = .ok (.iload_n 1, 1) := by decide +kernel
theorem dX12_turn_30 : decode cX12_turn 30 = .ok (.iaload, 1) := by decide +kernel
theorem dX12_turn_31 : decode cX12_turn 31 = .ok (.ireturn, 1) := by decide +kernel
theorem dX12_turn_32 : decode cX12_turn 32 = .ok (.iload_n 2, 1) := by decide +kernel
theorem dX12_turn_33 : decode cX12_turn 33 = .ok (.iconst 1, 1) := by decide +kernel
theorem dX12_turn_34 : decode cX12_turn 34 = .ok (.aload_n 0, 1) := by decide +kernel
theorem dX12_turn_35 : decode cX12_turn 35 = .ok (.getfield 7, 3) := by decide +kernel
theorem dX12_turn_38 : decode cX12_turn 38 = .ok (.invokestatic 142, 3) := by decide +kernel
theorem dX12_turn_41 : decode cX12_turn 41 = .ok (.ifCond .eq 16, 3) := by decide +kernel
theorem dX12_turn_44 : decode cX12_turn 44 = .ok (.aload_n 0, 1) := by decide +kernel
theorem dX12_turn_45 : decode cX12_turn 45 = .ok (.getfield 27, 3) := by decide +kernel
theorem dX12_turn_48 : decode cX12_turn 48 = .ok (.iconst 5, 1) := by decide +kernel
theorem dX12_turn_49 : decode cX12_turn 49 = .ok (.iload_n 1, 1) := by decide +kernel
theorem dX12_turn_50 : decode cX12_turn 50 = .ok (.imul, 1) := by decide +kernel
theorem dX12_turn_51 : decode cX12_turn 51 = .ok (.iload_n 2, 1) := by decide +kernel
theorem dX12_turn_52 : decode cX12_turn 52 = .ok (.iadd, 1) := by decide +kernel
theorem dX12_turn_53 : decode cX12_turn 53 = .ok (.iconst 1, 1) := by decide +kernel
theorem dX12_turn_54 : decode cX12_turn 54 = .ok (.isub, 1) := by decide +kernel
theorem dX12_turn_55 : decode cX12_turn 55 = .ok (.iaload, 1) := by decide +kernel
theorem dX12_turn_56 : decode cX12_turn 56 = .ok (.ireturn, 1) := by decide +kernel
theorem dX12_turn_57 : decode cX12_turn 57 = .ok (.iload_n 2, 1) := by decide +kernel
theorem dX12_turn_58 : decode cX12_turn 58 = .ok (.bipush 6, 2) := by decide +kernel
theorem dX12_turn_60 : decode cX12_turn 60 = .ok (.if_icmp .eq 5, 3) := by decide +kernel
theorem dX12_turn_63 : decode cX12_turn 63 = .ok (.iconst (-1), 1) := by decide +kernel
theorem dX12_turn_64 : decode cX12_turn 64 = .ok (.ireturn, 1) := by decide +kernel
theorem dX12_turn_65 : decode cX12_turn 65 = .ok (.aload_n 0, 1) := by decide +kernel
theorem dX12_turn_66 : decode cX12_turn 66 = .ok (.invokevirtual 208, 3) := by decide +kernel
theorem dX12_turn_69 : decode cX12_turn 69 = .ok (.aload_n 0, 1) := by decide +kernel
theorem dX12_turn_70 : decode cX12_turn 70 = .ok (.iload_n 1, 1) := by decide +kernel
theorem dX12_turn_71 : decode cX12_turn 71 = .ok (.invokevirtual 156, 3) := by decide +kernel
theorem dX12_turn_74 : decode cX12_turn 74 = .ok (.iconst 0, 1) := by decide +kernel
theorem dX12_turn_75 : decode cX12_turn 75 = .ok (.istore_n 3, 1) := by decide +kernel
theorem dX12_turn_76 : decode cX12_turn 76 = .ok (.iconst 0, 1) := by decide +kernel
theorem dX12_turn_77 : decode cX12_turn 77 = .ok (.istore 4, 2) := by decide +kernel
theorem dX12_turn_79 : decode cX12_turn 79 = .ok (.iload 4, 2) := by decide +kernel
theorem dX12_turn_81 : decode cX12_turn 81 = .ok (.aload_n 0, 1) := by decide +kernel
theorem dX12_turn_82 : decode cX12_turn 82 = .ok (.getfield 164, 3) := by decide +kernel
theorem dX12_turn_85 : decode cX12_turn 85 = .ok (.if_icmp .ge 37, 3) := by decide +kernel
theorem dX12_turn_88 : decode cX12_turn 88 = .ok (.iload_n 3, 1) := by decide +kernel
theorem dX12_turn_89 : decode cX12_turn 89 = .ok (.aload_n 0, 1) := by decide +kernel
theorem dX12_turn_90 : decode cX12_turn 90 = .ok (.aload_n 0, 1) := by decide +kernel
theorem dX12_turn_91 : decode cX12_turn 91 = .ok (.getfield 42, 3) := by decide +kernel
theorem dX12_turn_94 : decode cX12_turn 94 = .ok (.iload 4, 2) := by decide +kernel
theorem dX12_turn_96 : decode cX12_turn 96 = .ok (.iaload, 1) := by decide +kernel
theorem dX12_turn_97 : decode cX12_turn 97 = .ok (.invokevirtual 160, 3) := by decide +kernel
theorem dX12_turn_100 : decode cX12_turn 100 = .ok (.aload_n 0, 1) := by decide +kernel
theorem dX12_turn_101 : decode cX12_turn 101 = .ok (.getfield 30, 3) := by decide +kernel
theorem dX12_turn_104 : decode cX12_turn 104 = .ok (.iload_n 1, 1) := by decide +kernel
theorem dX12_turn_105 : decode cX12_turn 105 = .ok (.iaload, 1) := by decide +kernel
theorem dX12_turn_106 : decode cX12_turn 106 = .ok (.if_icmp .eq 7, 3) := by decide +kernel
theorem dX12_turn_109 : decode cX12_turn 109 = .ok (.iconst 1, 1) := by decide +kernel
theorem dX12_turn_110 : decode cX12_turn 110 = .ok (.goto 4, 3) := by decide +kernel
theorem dX12_turn_113 : decode cX12_turn 113 = .ok (.iconst 0, 1) := by decide +kernel
theorem dX12_turn_114 : decode cX12_turn 114 = .ok (.iadd, 1) := by decide +kernel
theorem dX12_turn_115 : decode cX12_turn 115 = .ok (.istore_n 3, 1) := by decide +kernel
theorem dX12_turn_116 : decode cX12_turn 116 = .ok (.iinc 4 1, 3) := by decide +kernel
theorem dX12_turn_119 : decode cX12_turn 119 = .ok (.goto (-40), 3) := by decide +kernel
theorem dX12_turn_122 : decode cX12_turn 122 = .ok (.iload_n 3, 1) := by decide +kernel
theorem dX12_turn_123 : decode cX12_turn 123 = .ok (.ireturn, 1) := by decide +kernel
theorem dX12_left_0 : decode cX12_left 0 = .ok (.aload_n 0, 1) := by decide +kernel
theorem dX12_left_1 : decode cX12_left 1 = .ok (.iconst 0, 1) := by decide +kernel
theorem dX12_left_2 : decode cX12_left 2 = .ok (.putfield 139, 3) := by decide +kernel
theorem dX12_left_5 : decode cX12_left 5 = .ok (.aload_n 0, 1) := by decide +kernel
theorem dX12_left_6 : decode cX12_left 6 = .ok (.invokevirtual 208, 3) := by decide +kernel
theorem dX12_left_9 : decode cX12_left 9 = .ok (.iload_n 1, 1) := by decide +kernel
theorem dX12_left_10 : decode cX12_left 10 = .ok (.iconst 0, 1) := by decide +kernel
theorem dX12_left_11 : decode cX12_left 11 = .ok (.aload_n 0, 1) := by decide +kernel
theorem dX12_left_12 : decode cX12_left 12 = .ok (.getfield 164, 3) := by decide +kernel
theorem dX12_left_15 : decode cX12_left 15 = .ok (.iconst 1, 1) := by decide +kernel
theorem dX12_left_16 : decode cX12_left 16 = .ok (.isub, 1) := by decide +kernel
theorem dX12_left_17 : decode cX12_left 17 = .ok (.invokestatic 142, 3) := by decide +kernel
theorem dX12_left_20 : decode cX12_left 20 = .ok (.ifCond .eq 12, 3) := by decide +kernel
theorem dX12_left_23 : decode cX12_left 23 = .ok (.aload_n 0, 1) := by decide +kernel
theorem dX12_left_24 : decode cX12_left 24 = .ok (.getfield 42, 3) := by decide +kernel
theorem dX12_left_27 : decode cX12_left 27 = .ok (.iload_n 1, 1) := by decide +kernel
theorem dX12_left_28 : decode cX12_left 28 = .ok (.iaload, 1) := by decide +kernel
theorem dX12_left_29 : decode cX12_left 29 = .ok (.goto 4, 3) := by decide +kernel
theorem dX12_left_32 : decode cX12_left 32 = .ok (.iconst (-1), 1) := by decide +kernel
theorem dX12_left_33 : decode cX12_left 33 = .ok (.ireturn, 1) := by decide +kernel
theorem dX12_falses_0 : decode cX12_falses 0 = .ok (.aload_n 0, 1) := by decide +kernel
theorem dX12_falses_1 : decode cX12_falses 1 = .ok (.iconst 0, 1) := by decide +kernel
theorem dX12_falses_2 : decode cX12_falses 2 = .ok (.putfield 139, 3) := by decide +kernel
theorem dX12_falses_5 : decode cX12_falses 5 = .ok (.aload_n 0, 1) := by decide +kernel
theorem dX12_falses_6 : decode cX12_falses 6 = .ok (.iload_n 1, 1) := by decide +kernel
theorem dX12_falses_7 : decode cX12_falses 7 = .ok (.invokevirtual 199, 3) := by decide +kernel
theorem dX12_falses_10 : decode cX12_falses 10 = .ok (.ifCond .eq 18, 3) := by decide +kernel
theorem dX12_falses_13 : decode cX12_falses 13 = .ok (.aload_n 0, 1) := by decide +kernel
theorem dX12_falses_14 : decode cX12_falses 14 = .ok (.iload_n 1, 1) := by decide +kernel
theorem dX12_falses_15 : decode cX12_falses 15 = .ok (.aload_n 0, 1) := by decide +kernel
theorem dX12_falses_16 : decode cX12_falses 16 = .ok (.getfield 171, 3) := by decide +kernel
theorem dX12_falses_19 : decode cX12_falses 19 = .ok (.invokevirtual 174, 3) := by decide +kernel
theorem dX12_falses_22 : decode cX12_falses 22 = .ok (.invokestatic 177, 3) := by decide +kernel
theorem dX12_falses_25 : decode cX12_falses 25 = .ok (.goto 4, 3) := by decide +kernel
theorem dX12_falses_28 : decode cX12_falses 28 = .ok (.iconst (-1), 1) := by decide +kernel
theorem dX12_falses_29 : decode cX12_falses 29 = .ok (.ireturn, 1) := by decide +kernel
theorem dX12_partsOf_0 : decode cX12_partsOf 0 = .ok (.iconst 0, 1) := by decide +kernel
theorem dX12_partsOf_1 : decode cX12_partsOf 1 = .ok (.istore_n 1, 1) := by decide +kernel
theorem dX12_partsOf_2 : decode cX12_partsOf 2 = .ok (.iload_n 1, 1) := by decide +kernel
theorem dX12_partsOf_3 : decode cX12_partsOf 3 = .ok (.bipush 60, 2) := by decide +kernel
theorem dX12_partsOf_5 : decode cX12_partsOf 5 = .ok (.if_icmp .ge 16, 3) := by decide +kernel
theorem dX12_partsOf_8 : decode cX12_partsOf 8 = .ok (.aload_n 0, 1) := by decide +kernel
theorem dX12_partsOf_9 : decode cX12_partsOf 9 = .ok (.getfield 48, 3) := by decide +kernel
theorem dX12_partsOf_12 : decode cX12_partsOf 12 = .ok (.iload_n 1, 1) := by decide +kernel
theorem dX12_partsOf_13 : decode cX12_partsOf 13 = .ok (.iconst 0, 1) := by decide +kernel
theorem dX12_partsOf_14 : decode cX12_partsOf 14 = .ok (.iastore, 1) := by decide +kernel
theorem dX12_partsOf_15 : decode cX12_partsOf 15 = .ok (.iinc 1 1, 3) := by decide +kernel
theorem dX12_partsOf_18 : decode cX12_partsOf 18 = .ok (.goto (-16), 3) := by decide +kernel
theorem dX12_partsOf_21 : decode cX12_partsOf 21 = .ok (.iconst 0, 1) := by decide +kernel
theorem dX12_partsOf_22 : decode cX12_partsOf 22 = .ok (.istore_n 1, 1) := by decide +kernel
theorem dX12_partsOf_23 : decode cX12_partsOf 23 = .ok (.iload_n 1, 1) := by decide +kernel
theorem dX12_partsOf_24 : decode cX12_partsOf 24 = .ok (.aload_n 0, 1) := by decide +kernel
theorem dX12_partsOf_25 : decode cX12_partsOf 25 = .ok (.getfield 164, 3) := by decide +kernel
theorem dX12_partsOf_28 : decode cX12_partsOf 28 = .ok (.if_icmp .ge 28, 3) := by decide +kernel
theorem dX12_partsOf_31 : decode cX12_partsOf 31 = .ok (.aload_n 0, 1) := by decide +kernel
theorem dX12_partsOf_32 : decode cX12_partsOf 32 = .ok (.getfield 48, 3) := by decide +kernel
theorem dX12_partsOf_35 : decode cX12_partsOf 35 = .ok (.aload_n 0, 1) := by decide +kernel
theorem dX12_partsOf_36 : decode cX12_partsOf 36 = .ok (.aload_n 0, 1) := by decide +kernel
theorem dX12_partsOf_37 : decode cX12_partsOf 37 = .ok (.getfield 42, 3) := by decide +kernel
theorem dX12_partsOf_40 : decode cX12_partsOf 40 = .ok (.iload_n 1, 1) := by decide +kernel
theorem dX12_partsOf_41 : decode cX12_partsOf 41 = .ok (.iaload, 1) := by decide +kernel
theorem dX12_partsOf_42 : decode cX12_partsOf 42 = .ok (.invokevirtual 160, 3) := by decide +kernel
theorem dX12_partsOf_45 : decode cX12_partsOf 45 = .ok (.dup2, 1) := by decide +kernel
theorem dX12_partsOf_46 : decode cX12_partsOf 46 = .ok (.iaload, 1) := by decide +kernel
theorem dX12_partsOf_47 : decode cX12_partsOf 47 = .ok (.iconst 1, 1) := by decide +kernel
theorem dX12_partsOf_48 : decode cX12_partsOf 48 = .ok (.iadd, 1) := by decide +kernel
theorem dX12_partsOf_49 : decode cX12_partsOf 49 = .ok (.iastore, 1) := by decide +kernel
theorem dX12_partsOf_50 : decode cX12_partsOf 50 = .ok (.iinc 1 1, 3) := by decide +kernel
theorem dX12_partsOf_53 : decode cX12_partsOf 53 = .ok (.goto (-30), 3) := by decide +kernel
theorem dX12_partsOf_56 : decode cX12_partsOf 56 = .ok (.iconst 0, 1) := by decide +kernel
theorem dX12_partsOf_57 : decode cX12_partsOf 57 = .ok (.istore_n 1, 1) := by decide +kernel
theorem dX12_partsOf_58 : decode cX12_partsOf 58 = .ok (.iconst 0, 1) := by decide +kernel
theorem dX12_partsOf_59 : decode cX12_partsOf 59 = .ok (.istore_n 2, 1) := by decide +kernel
theorem dX12_partsOf_60 : decode cX12_partsOf 60 = .ok (.iload_n 2, 1) := by decide +kernel
theorem dX12_partsOf_61 : decode cX12_partsOf 61 = .ok (.bipush 60, 2) := by decide +kernel
theorem dX12_partsOf_63 : decode cX12_partsOf 63 = .ok (.if_icmp .ge 26, 3) := by decide +kernel
theorem dX12_partsOf_66 : decode cX12_partsOf 66 = .ok (.iload_n 1, 1) := by decide +kernel
theorem dX12_partsOf_67 : decode cX12_partsOf 67 = .ok (.aload_n 0, 1) := by decide +kernel
theorem dX12_partsOf_68 : decode cX12_partsOf 68 = .ok (.getfield 48, 3) := by decide +kernel
theorem dX12_partsOf_71 : decode cX12_partsOf 71 = .ok (.iload_n 2, 1) := by decide +kernel
theorem dX12_partsOf_72 : decode cX12_partsOf 72 = .ok (.iaload, 1) := by decide +kernel
theorem dX12_partsOf_73 : decode cX12_partsOf 73 = .ok (.ifCond .le 7, 3) := by decide +kernel
theorem dX12_partsOf_76 : decode cX12_partsOf 76 = .ok (.iconst 1, 1) := by decide +kernel
theorem dX12_partsOf_77 : decode cX12_partsOf 77 = .ok (.goto 4, 3) := by decide +kernel
theorem dX12_partsOf_80 : decode cX12_partsOf 80 = .ok (.iconst 0, 1) := by decide +kernel
theorem dX12_partsOf_81 : decode cX12_partsOf 81 = .ok (.iadd, 1) := by decide +kernel
theorem dX12_partsOf_82 : decode cX12_partsOf 82 = .ok (.istore_n 1, 1) := by decide +kernel
theorem dX12_partsOf_83 : decode cX12_partsOf 83 = .ok (.iinc 2 1, 3) := by decide +kernel
theorem dX12_partsOf_86 : decode cX12_partsOf 86 = .ok (.goto (-26), 3) := by decide +kernel
theorem dX12_partsOf_89 : decode cX12_partsOf 89 = .ok (.iload_n 1, 1) := by decide +kernel
theorem dX12_partsOf_90 : decode cX12_partsOf 90 = .ok (.ireturn, 1) := by decide +kernel
theorem dX12_part_0 : decode cX12_part 0 = .ok (.aload_n 0, 1) := by decide +kernel
theorem dX12_part_1 : decode cX12_part 1 = .ok (.iconst 0, 1) := by decide +kernel
theorem dX12_part_2 : decode cX12_part 2 = .ok (.putfield 139, 3) := by decide +kernel
theorem dX12_part_5 : decode cX12_part 5 = .ok (.aload_n 0, 1) := by decide +kernel
theorem dX12_part_6 : decode cX12_part 6 = .ok (.invokevirtual 208, 3) := by decide +kernel
theorem dX12_part_9 : decode cX12_part 9 = .ok (.aload_n 0, 1) := by decide +kernel
theorem dX12_part_10 : decode cX12_part 10 = .ok (.invokevirtual 211, 3) := by decide +kernel
theorem dX12_part_13 : decode cX12_part 13 = .ok (.iload_n 1, 1) := by decide +kernel
theorem dX12_part_14 : decode cX12_part 14 = .ok (.iconst 0, 1) := by decide +kernel
theorem dX12_part_15 : decode cX12_part 15 = .ok (.aload_n 0, 1) := by decide +kernel
theorem dX12_part_16 : decode cX12_part 16 = .ok (.invokevirtual 223, 3) := by decide +kernel
theorem dX12_part_19 : decode cX12_part 19 = .ok (.iconst 1, 1) := by decide +kernel
theorem dX12_part_20 : decode cX12_part 20 = .ok (.isub, 1) := by decide +kernel
theorem dX12_part_21 : decode cX12_part 21 = .ok (.invokestatic 142, 3) := by decide +kernel
theorem dX12_part_24 : decode cX12_part 24 = .ok (.ifCond .eq 12, 3) := by decide +kernel
theorem dX12_part_27 : decode cX12_part 27 = .ok (.iload_n 2, 1) := by decide +kernel
theorem dX12_part_28 : decode cX12_part 28 = .ok (.iconst 0, 1) := by decide +kernel
theorem dX12_part_29 : decode cX12_part 29 = .ok (.iconst 1, 1) := by decide +kernel
theorem dX12_part_30 : decode cX12_part 30 = .ok (.invokestatic 142, 3) := by decide +kernel
theorem dX12_part_33 : decode cX12_part 33 = .ok (.ifCond .ne 5, 3) := by decide +kernel
theorem dX12_part_36 : decode cX12_part 36 = .ok (.iconst (-1), 1) := by decide +kernel
theorem dX12_part_37 : decode cX12_part 37 = .ok (.ireturn, 1) := by decide +kernel
theorem dX12_part_38 : decode cX12_part 38 = .ok (.iconst (-1), 1) := by decide +kernel
theorem dX12_part_39 : decode cX12_part 39 = .ok (.istore_n 3, 1) := by decide +kernel
theorem dX12_part_40 : decode cX12_part 40 = .ok (.iconst (-1), 1) := by decide +kernel
theorem dX12_part_41 : decode cX12_part 41 = .ok (.istore 4, 2) := by decide +kernel
theorem dX12_part_43 : decode cX12_part 43 = .ok (.iload_n 3, 1) := by decide +kernel
theorem dX12_part_44 : decode cX12_part 44 = .ok (.iload_n 1, 1) := by decide +kernel
theorem dX12_part_45 : decode cX12_part 45 = .ok (.if_icmp .ge 27, 3) := by decide +kernel
theorem dX12_part_48 : decode cX12_part 48 = .ok (.iinc 4 1, 3) := by decide +kernel
theorem dX12_part_51 : decode cX12_part 51 = .ok (.iload_n 3, 1) := by decide +kernel
theorem dX12_part_52 : decode cX12_part 52 = .ok (.aload_n 0, 1) := by decide +kernel
theorem dX12_part_53 : decode cX12_part 53 = .ok (.getfield 48, 3) := by decide +kernel
theorem dX12_part_56 : decode cX12_part 56 = .ok (.iload 4, 2) := by decide +kernel
theorem dX12_part_58 : decode cX12_part 58 = .ok (.iaload, 1) := by decide +kernel
theorem dX12_part_59 : decode cX12_part 59 = .ok (.ifCond .le 7, 3) := by decide +kernel
theorem dX12_part_62 : decode cX12_part 62 = .ok (.iconst 1, 1) := by decide +kernel
theorem dX12_part_63 : decode cX12_part 63 = .ok (.goto 4, 3) := by decide +kernel
theorem dX12_part_66 : decode cX12_part 66 = .ok (.iconst 0, 1) := by decide +kernel
theorem dX12_part_67 : decode cX12_part 67 = .ok (.iadd, 1) := by decide +kernel
theorem dX12_part_68 : decode cX12_part 68 = .ok (.istore_n 3, 1) := by decide +kernel
theorem dX12_part_69 : decode cX12_part 69 = .ok (.goto (-26), 3) := by decide +kernel
theorem dX12_part_72 : decode cX12_part 72 = .ok (.iload_n 2, 1) := by decide +kernel
theorem dX12_part_73 : decode cX12_part 73 = .ok (.ifCond .ne 8, 3) := by decide +kernel
theorem dX12_part_76 : decode cX12_part 76 = .ok (.iload 4, 2) := by decide +kernel
theorem dX12_part_78 : decode cX12_part 78 = .ok (.goto 10, 3) := by decide +kernel
theorem dX12_part_81 : decode cX12_part 81 = .ok (.aload_n 0, 1) := by decide +kernel
theorem dX12_part_82 : decode cX12_part 82 = .ok (.getfield 48, 3) := by decide +kernel
theorem dX12_part_85 : decode cX12_part 85 = .ok (.iload 4, 2) := by decide +kernel
theorem dX12_part_87 : decode cX12_part 87 = .ok (.iaload, 1) := by decide +kernel
theorem dX12_part_88 : decode cX12_part 88 = .ok (.ireturn, 1) := by decide +kernel
theorem dX12_among_0 : decode cX12_among 0 = .ok (.aload_n 0, 1) := by decide +kernel
theorem dX12_among_1 : decode cX12_among 1 = .ok (.iconst 0, 1) := by decide +kernel
theorem dX12_among_2 : decode cX12_among 2 = .ok (.putfield 139, 3) := by decide +kernel
theorem dX12_among_5 : decode cX12_among 5 = .ok (.iload_n 1, 1) := by decide +kernel
theorem dX12_among_6 : decode cX12_among 6 = .ok (.iconst 0, 1) := by decide +kernel
theorem dX12_among_7 : decode cX12_among 7 = .ok (.iconst 3, 1) := by decide +kernel
theorem dX12_among_8 : decode cX12_among 8 = .ok (.invokestatic 142, 3) := by decide +kernel
theorem dX12_among_11 : decode cX12_among 11 = .ok (.ifCond .ne 5, 3) := by decide +kernel
theorem dX12_among_14 : decode cX12_among 14 = .ok (.iconst (-1), 1) := by decide +kernel
theorem dX12_among_15 : decode cX12_among 15 = .ok (.ireturn, 1) := by decide +kernel
theorem dX12_among_16 : decode cX12_among 16 = .ok (.aload_n 0, 1) := by decide +kernel
theorem dX12_among_17 : decode cX12_among 17 = .ok (.invokevirtual 208, 3) := by decide +kernel
theorem dX12_among_20 : decode cX12_among 20 = .ok (.aload_n 0, 1) := by decide +kernel
theorem dX12_among_21 : decode cX12_among 21 = .ok (.getfield 164, 3) := by decide +kernel
theorem dX12_among_24 : decode cX12_among 24 = .ok (.ifCond .ne 14, 3) := by decide +kernel
theorem dX12_among_27 : decode cX12_among 27 = .ok (.iload_n 1, 1) := by decide +kernel
theorem dX12_among_28 : decode cX12_among 28 = .ok (.iconst 2, 1) := by decide +kernel
theorem dX12_among_29 : decode cX12_among 29 = .ok (.if_icmp .ge 7, 3) := by decide +kernel
theorem dX12_among_32 : decode cX12_among 32 = .ok (.iconst 0, 1) := by decide +kernel
theorem dX12_among_33 : decode cX12_among 33 = .ok (.goto 4, 3) := by decide +kernel
theorem dX12_among_36 : decode cX12_among 36 = .ok (.iconst (-1), 1) := by decide +kernel
theorem dX12_among_37 : decode cX12_among 37 = .ok (.ireturn, 1) := by decide +kernel
theorem dX12_among_38 : decode cX12_among 38 = .ok (.aload_n 0, 1) := by decide +kernel
theorem dX12_among_39 : decode cX12_among 39 = .ok (.getfield 16, 3) := by decide +kernel
theorem dX12_among_42 : decode cX12_among 42 = .ok (.aload_n 0, 1) := by decide +kernel
theorem dX12_among_43 : decode cX12_among 43 = .ok (.getfield 164, 3) := by decide +kernel
theorem dX12_among_46 : decode cX12_among 46 = .ok (.imul, 1) := by decide +kernel
theorem dX12_among_47 : decode cX12_among 47 = .ok (.ldc 226, 2) := by decide +kernel
theorem dX12_among_49 : decode cX12_among 49 = .ok (.if_icmp .le 6, 3) := by decide +kernel
theorem dX12_among_52 : decode cX12_among 52 = .ok (.bipush (-5), 2) := by decide +kernel
theorem dX12_among_54 : decode cX12_among 54 = .ok (.ireturn, 1) := by decide +kernel
theorem dX12_among_55 : decode cX12_among 55 = .ok (.ldc 227, 2) := by decide +kernel
theorem dX12_among_57 : decode cX12_among 57 = .ok (.istore_n 2, 1) := by decide +kernel
theorem dX12_among_58 : decode cX12_among 58 = .ok (.iconst 0, 1) := by decide +kernel
theorem dX12_among_59 : decode cX12_among 59 = .ok (.istore_n 3, 1) := by decide +kernel
theorem dX12_among_60 : decode cX12_among 60 = .ok (.iconst (-1), 1) := by decide +kernel
theorem dX12_among_61 : decode cX12_among 61 = .ok (.istore 4, 2) := by decide +kernel
theorem dX12_among_63 : decode cX12_among 63 = .ok (.iconst (-1), 1) := by decide +kernel
theorem dX12_among_64 : decode cX12_among 64 = .ok (.istore 5, 2) := by decide +kernel
theorem dX12_among_66 : decode cX12_among 66 = .ok (.iconst 0, 1) := by decide +kernel
theorem dX12_among_67 : decode cX12_among 67 = .ok (.istore 6, 2) := by decide +kernel
theorem dX12_among_69 : decode cX12_among 69 = .ok (.iload 6, 2) := by decide +kernel
theorem dX12_among_71 : decode cX12_among 71 = .ok (.aload_n 0, 1) := by decide +kernel
theorem dX12_among_72 : decode cX12_among 72 = .ok (.getfield 16, 3) := by decide +kernel
theorem dX12_among_75 : decode cX12_among 75 = .ok (.if_icmp .ge 92, 3) := by decide +kernel
theorem dX12_among_78 : decode cX12_among 78 = .ok (.aload_n 0, 1) := by decide +kernel
theorem dX12_among_79 : decode cX12_among 79 = .ok (.iload 6, 2) := by decide +kernel
theorem dX12_among_81 : decode cX12_among 81 = .ok (.invokevirtual 214, 3) := by decide +kernel
theorem dX12_among_84 : decode cX12_among 84 = .ok (.aload_n 0, 1) := by decide +kernel
theorem dX12_among_85 : decode cX12_among 85 = .ok (.invokevirtual 223, 3) := by decide +kernel
theorem dX12_among_88 : decode cX12_among 88 = .ok (.istore 7, 2) := by decide +kernel
theorem dX12_among_90 : decode cX12_among 90 = .ok (.iconst 0, 1) := by decide +kernel
theorem dX12_among_91 : decode cX12_among 91 = .ok (.istore 8, 2) := by decide +kernel
theorem dX12_among_93 : decode cX12_among 93 = .ok (.iconst 0, 1) := by decide +kernel
theorem dX12_among_94 : decode cX12_among 94 = .ok (.istore 9, 2) := by decide +kernel
theorem dX12_among_96 : decode cX12_among 96 = .ok (.iload 9, 2) := by decide +kernel
theorem dX12_among_98 : decode cX12_among 98 = .ok (.bipush 60, 2) := by decide +kernel
theorem dX12_among_100 : decode cX12_among 100 = .ok (.if_icmp .ge 35, 3) := by decide +kernel
theorem dX12_among_103 : decode cX12_among 103 = .ok (.aload_n 0, 1) := by decide +kernel
theorem dX12_among_104 : decode cX12_among 104 = .ok (.getfield 48, 3) := by decide +kernel
theorem dX12_among_107 : decode cX12_among 107 = .ok (.iload 9, 2) := by decide +kernel
theorem dX12_among_109 : decode cX12_among 109 = .ok (.iaload, 1) := by decide +kernel
theorem dX12_among_110 : decode cX12_among 110 = .ok (.iload 8, 2) := by decide +kernel
theorem dX12_among_112 : decode cX12_among 112 = .ok (.if_icmp .le 13, 3) := by decide +kernel
theorem dX12_among_115 : decode cX12_among 115 = .ok (.aload_n 0, 1) := by decide +kernel
theorem dX12_among_116 : decode cX12_among 116 = .ok (.getfield 48, 3) := by decide +kernel
theorem dX12_among_119 : decode cX12_among 119 = .ok (.iload 9, 2) := by decide +kernel
theorem dX12_among_121 : decode cX12_among 121 = .ok (.iaload, 1) := by decide +kernel
theorem dX12_among_122 : decode cX12_among 122 = .ok (.goto 5, 3) := by decide +kernel
theorem dX12_among_125 : decode cX12_among 125 = .ok (.iload 8, 2) := by decide +kernel
theorem dX12_among_127 : decode cX12_among 127 = .ok (.istore 8, 2) := by decide +kernel
theorem dX12_among_129 : decode cX12_among 129 = .ok (.iinc 9 1, 3) := by decide +kernel
theorem dX12_among_132 : decode cX12_among 132 = .ok (.goto (-36), 3) := by decide +kernel
theorem dX12_among_135 : decode cX12_among 135 = .ok (.iload 8, 2) := by decide +kernel
theorem dX12_among_137 : decode cX12_among 137 = .ok (.iload_n 2, 1) := by decide +kernel
theorem dX12_among_138 : decode cX12_among 138 = .ok (.if_icmp .ge 10, 3) := by decide +kernel
theorem dX12_among_141 : decode cX12_among 141 = .ok (.iload 8, 2) := by decide +kernel
theorem dX12_among_143 : decode cX12_among 143 = .ok (.istore_n 2, 1) := by decide +kernel
theorem dX12_among_144 : decode cX12_among 144 = .ok (.iload 6, 2) := by decide +kernel
theorem dX12_among_146 : decode cX12_among 146 = .ok (.istore 4, 2) := by decide +kernel
theorem dX12_among_148 : decode cX12_among 148 = .ok (.iload 7, 2) := by decide +kernel
theorem dX12_among_150 : decode cX12_among 150 = .ok (.iload_n 3, 1) := by decide +kernel
theorem dX12_among_151 : decode cX12_among 151 = .ok (.if_icmp .le 10, 3) := by decide +kernel
theorem dX12_among_154 : decode cX12_among 154 = .ok (.iload 7, 2) := by decide +kernel
theorem dX12_among_156 : decode cX12_among 156 = .ok (.istore_n 3, 1) := by decide +kernel
theorem dX12_among_157 : decode cX12_among 157 = .ok (.iload 6, 2) := by decide +kernel
theorem dX12_among_159 : decode cX12_among 159 = .ok (.istore 5, 2) := by decide +kernel
theorem dX12_among_161 : decode cX12_among 161 = .ok (.iinc 6 1, 3) := by decide +kernel
theorem dX12_among_164 : decode cX12_among 164 = .ok (.goto (-95), 3) := by decide +kernel
theorem dX12_among_167 : decode cX12_among 167 = .ok (.iload_n 1, 1) := by decide +kernel
theorem dX12_among_168 : decode cX12_among 168 = .ok (.ifCond .ne 7, 3) := by decide +kernel
theorem dX12_among_171 : decode cX12_among 171 = .ok (.iload_n 2, 1) := by decide +kernel
theorem dX12_among_172 : decode cX12_among 172 = .ok (.goto 24, 3) := by decide +kernel
theorem dX12_among_175 : decode cX12_among 175 = .ok (.iload_n 1, 1) := by decide +kernel
theorem dX12_among_176 : decode cX12_among 176 = .ok (.iconst 1, 1) := by decide +kernel
theorem dX12_among_177 : decode cX12_among 177 = .ok (.if_icmp .ne 7, 3) := by decide +kernel
theorem dX12_among_180 : decode cX12_among 180 = .ok (.iload_n 3, 1) := by decide +kernel
theorem dX12_among_181 : decode cX12_among 181 = .ok (.goto 15, 3) := by decide +kernel
theorem dX12_among_184 : decode cX12_among 184 = .ok (.iload_n 1, 1) := by decide +kernel
theorem dX12_among_185 : decode cX12_among 185 = .ok (.iconst 2, 1) := by decide +kernel
theorem dX12_among_186 : decode cX12_among 186 = .ok (.if_icmp .ne 8, 3) := by decide +kernel
theorem dX12_among_189 : decode cX12_among 189 = .ok (.iload 4, 2) := by decide +kernel
theorem dX12_among_191 : decode cX12_among 191 = .ok (.goto 5, 3) := by decide +kernel
theorem dX12_among_194 : decode cX12_among 194 = .ok (.iload 5, 2) := by decide +kernel
theorem dX12_among_196 : decode cX12_among 196 = .ok (.ireturn, 1) := by decide +kernel
theorem dX12_order_0 : decode cX12_order 0 = .ok (.iload_n 2, 1) := by decide +kernel
theorem dX12_order_1 : decode cX12_order 1 = .ok (.istore_n 3, 1) := by decide +kernel
theorem dX12_order_2 : decode cX12_order 2 = .ok (.iconst 0, 1) := by decide +kernel
theorem dX12_order_3 : decode cX12_order 3 = .ok (.istore 4, 2) := by decide +kernel
theorem dX12_order_5 : decode cX12_order 5 = .ok (.iload 4, 2) := by decide +kernel
theorem dX12_order_7 : decode cX12_order 7 = .ok (.iload_n 1, 1) := by decide +kernel
theorem dX12_order_8 : decode cX12_order 8 = .ok (.if_icmp .ge 120, 3) := by decide +kernel
theorem dX12_order_11 : decode cX12_order 11 = .ok (.iload_n 1, 1) := by decide +kernel
theorem dX12_order_12 : decode cX12_order 12 = .ok (.iload 4, 2) := by decide +kernel
theorem dX12_order_14 : decode cX12_order 14 = .ok (.isub, 1) := by decide +kernel
theorem dX12_order_15 : decode cX12_order 15 = .ok (.istore 5, 2) := by decide +kernel
theorem dX12_order_17 : decode cX12_order 17 = .ok (.iconst 1, 1) := by decide +kernel
theorem dX12_order_18 : decode cX12_order 18 = .ok (.istore 6, 2) := by decide +kernel
theorem dX12_order_20 : decode cX12_order 20 = .ok (.iconst 2, 1) := by decide +kernel
theorem dX12_order_21 : decode cX12_order 21 = .ok (.istore 7, 2) := by decide +kernel
theorem dX12_order_23 : decode cX12_order 23 = .ok (.iload 7, 2) := by decide +kernel
theorem dX12_order_25 : decode cX12_order 25 = .ok (.iload 5, 2) := by decide +kernel
theorem dX12_order_27 : decode cX12_order 27 = .ok (.if_icmp .ge 16, 3) := by decide +kernel
theorem dX12_order_30 : decode cX12_order 30 = .ok (.iload 6, 2) := by decide +kernel
theorem dX12_order_32 : decode cX12_order 32 = .ok (.iload 7, 2) := by decide +kernel
theorem dX12_order_34 : decode cX12_order 34 = .ok (.imul, 1) := by decide +kernel
theorem dX12_order_35 : decode cX12_order 35 = .ok (.istore 6, 2) := by decide +kernel
theorem dX12_order_37 : decode cX12_order 37 = .ok (.iinc 7 1, 3) := by decide +kernel
theorem dX12_order_40 : decode cX12_order 40 = .ok (.goto (-17), 3) := by decide +kernel
theorem dX12_order_43 : decode cX12_order 43 = .ok (.iload_n 3, 1) := by decide +kernel
theorem dX12_order_44 : decode cX12_order 44 = .ok (.iload 6, 2) := by decide +kernel
theorem dX12_order_46 : decode cX12_order 46 = .ok (.idiv, 1) := by decide +kernel
theorem dX12_order_47 : decode cX12_order 47 = .ok (.istore 7, 2) := by decide +kernel
theorem dX12_order_49 : decode cX12_order 49 = .ok (.iload_n 3, 1) := by decide +kernel
theorem dX12_order_50 : decode cX12_order 50 = .ok (.iload 6, 2) := by decide +kernel
theorem dX12_order_52 : decode cX12_order 52 = .ok (.irem, 1) := by decide +kernel
theorem dX12_order_53 : decode cX12_order 53 = .ok (.istore_n 3, 1) := by decide +kernel
theorem dX12_order_54 : decode cX12_order 54 = .ok (.iconst (-1), 1) := by decide +kernel
theorem dX12_order_55 : decode cX12_order 55 = .ok (.istore 8, 2) := by decide +kernel
theorem dX12_order_57 : decode cX12_order 57 = .ok (.iload 7, 2) := by decide +kernel
theorem dX12_order_59 : decode cX12_order 59 = .ok (.ifCond .lt 57, 3) := by decide +kernel
theorem dX12_order_62 : decode cX12_order 62 = .ok (.iinc 8 1, 3) := by decide +kernel
theorem dX12_order_65 : decode cX12_order 65 = .ok (.iconst 0, 1) := by decide +kernel
theorem dX12_order_66 : decode cX12_order 66 = .ok (.istore 9, 2) := by decide +kernel
theorem dX12_order_68 : decode cX12_order 68 = .ok (.iconst 0, 1) := by decide +kernel
theorem dX12_order_69 : decode cX12_order 69 = .ok (.istore 10, 2) := by decide +kernel
theorem dX12_order_71 : decode cX12_order 71 = .ok (.iload 10, 2) := by decide +kernel
theorem dX12_order_73 : decode cX12_order 73 = .ok (.iload 4, 2) := by decide +kernel
theorem dX12_order_75 : decode cX12_order 75 = .ok (.if_icmp .ge 30, 3) := by decide +kernel
theorem dX12_order_78 : decode cX12_order 78 = .ok (.iload 9, 2) := by decide +kernel
theorem dX12_order_80 : decode cX12_order 80 = .ok (.ifCond .ne 12, 3) := by decide +kernel
theorem dX12_order_83 : decode cX12_order 83 = .ok (.aload_n 0, 1) := by decide +kernel
theorem dX12_order_84 : decode cX12_order 84 = .ok (.iload 10, 2) := by decide +kernel
theorem dX12_order_86 : decode cX12_order 86 = .ok (.iaload, 1) := by decide +kernel
theorem dX12_order_87 : decode cX12_order 87 = .ok (.iload 8, 2) := by decide +kernel
theorem dX12_order_89 : decode cX12_order 89 = .ok (.if_icmp .ne 7, 3) := by decide +kernel
theorem dX12_order_92 : decode cX12_order 92 = .ok (.iconst 1, 1) := by decide +kernel
theorem dX12_order_93 : decode cX12_order 93 = .ok (.goto 4, 3) := by decide +kernel
theorem dX12_order_96 : decode cX12_order 96 = .ok (.iconst 0, 1) := by decide +kernel
theorem dX12_order_97 : decode cX12_order 97 = .ok (.istore 9, 2) := by decide +kernel
theorem dX12_order_99 : decode cX12_order 99 = .ok (.iinc 10 1, 3) := by decide +kernel
theorem dX12_order_102 : decode cX12_order 102 = .ok (.goto (-31), 3) := by decide +kernel
theorem dX12_order_105 : decode cX12_order 105 = .ok (.iload 9, 2) := by decide +kernel
theorem dX12_order_107 : decode cX12_order 107 = .ok (.ifCond .ne 6, 3) := by decide +kernel
theorem dX12_order_110 : decode cX12_order 110 = .ok (.iinc 7 (-1), 3) := by decide +kernel
theorem dX12_order_113 : decode cX12_order 113 = .ok (.goto (-56), 3) := by decide +kernel
theorem dX12_order_116 : decode cX12_order 116 = .ok (.aload_n 0, 1) := by decide +kernel
theorem dX12_order_117 : decode cX12_order 117 = .ok (.iload 4, 2) := by decide +kernel
theorem dX12_order_119 : decode cX12_order 119 = .ok (.iload 8, 2) := by decide +kernel
theorem dX12_order_121 : decode cX12_order 121 = .ok (.iastore, 1) := by decide +kernel
theorem dX12_order_122 : decode cX12_order 122 = .ok (.iinc 4 1, 3) := by decide +kernel
theorem dX12_order_125 : decode cX12_order 125 = .ok (.goto (-120), 3) := by decide +kernel
theorem dX12_order_128 : decode cX12_order 128 = .ok (.return_, 1) := by decide +kernel
theorem dX12_turned_0 : decode cX12_turned 0 = .ok (.iconst 0, 1) := by decide +kernel
theorem dX12_turned_1 : decode cX12_turned 1 = .ok (.istore_n 2, 1) := by decide +kernel
theorem dX12_turned_2 : decode cX12_turned 2 = .ok (.iload_n 2, 1) := by decide +kernel
theorem dX12_turned_3 : decode cX12_turned 3 = .ok (.aload_n 0, 1) := by decide +kernel
theorem dX12_turned_4 : decode cX12_turned 4 = .ok (.getfield 7, 3) := by decide +kernel
theorem dX12_turned_7 : decode cX12_turned 7 = .ok (.if_icmp .ge 31, 3) := by decide +kernel
theorem dX12_turned_10 : decode cX12_turned 10 = .ok (.aload_n 0, 1) := by decide +kernel
theorem dX12_turned_11 : decode cX12_turned 11 = .ok (.getfield 57, 3) := by decide +kernel
theorem dX12_turned_14 : decode cX12_turned 14 = .ok (.aload_n 0, 1) := by decide +kernel
theorem dX12_turned_15 : decode cX12_turned 15 = .ok (.getfield 51, 3) := by decide +kernel
theorem dX12_turned_18 : decode cX12_turned 18 = .ok (.iload_n 2, 1) := by decide +kernel
theorem dX12_turned_19 : decode cX12_turned 19 = .ok (.iaload, 1) := by decide +kernel
theorem dX12_turned_20 : decode cX12_turned 20 = .ok (.aload_n 0, 1) := by decide +kernel
theorem dX12_turned_21 : decode cX12_turned 21 = .ok (.getfield 54, 3) := by decide +kernel
theorem dX12_turned_24 : decode cX12_turned 24 = .ok (.aload_n 0, 1) := by decide +kernel
theorem dX12_turned_25 : decode cX12_turned 25 = .ok (.iload_n 1, 1) := by decide +kernel
theorem dX12_turned_26 : decode cX12_turned 26 = .ok (.iload_n 2, 1) := by decide +kernel
theorem dX12_turned_27 : decode cX12_turned 27 = .ok (.invokevirtual 146, 3) := by decide +kernel
theorem dX12_turned_30 : decode cX12_turned 30 = .ok (.iaload, 1) := by decide +kernel
theorem dX12_turned_31 : decode cX12_turned 31 = .ok (.iastore, 1) := by decide +kernel
theorem dX12_turned_32 : decode cX12_turned 32 = .ok (.iinc 2 1, 3) := by decide +kernel
theorem dX12_turned_35 : decode cX12_turned 35 = .ok (.goto (-33), 3) := by decide +kernel
theorem dX12_turned_38 : decode cX12_turned 38 = .ok (.iconst 0, 1) := by decide +kernel
theorem dX12_turned_39 : decode cX12_turned 39 = .ok (.istore_n 2, 1) := by decide +kernel
theorem dX12_turned_40 : decode cX12_turned 40 = .ok (.iconst 0, 1) := by decide +kernel
theorem dX12_turned_41 : decode cX12_turned 41 = .ok (.istore_n 3, 1) := by decide +kernel
theorem dX12_turned_42 : decode cX12_turned 42 = .ok (.iload_n 3, 1) := by decide +kernel
theorem dX12_turned_43 : decode cX12_turned 43 = .ok (.aload_n 0, 1) := by decide +kernel
theorem dX12_turned_44 : decode cX12_turned 44 = .ok (.getfield 7, 3) := by decide +kernel
theorem dX12_turned_47 : decode cX12_turned 47 = .ok (.if_icmp .ge 23, 3) := by decide +kernel
theorem dX12_turned_50 : decode cX12_turned 50 = .ok (.aload_n 0, 1) := by decide +kernel
theorem dX12_turned_51 : decode cX12_turned 51 = .ok (.getfield 13, 3) := by decide +kernel
theorem dX12_turned_54 : decode cX12_turned 54 = .ok (.iload_n 2, 1) := by decide +kernel
theorem dX12_turned_55 : decode cX12_turned 55 = .ok (.imul, 1) := by decide +kernel
theorem dX12_turned_56 : decode cX12_turned 56 = .ok (.aload_n 0, 1) := by decide +kernel
theorem dX12_turned_57 : decode cX12_turned 57 = .ok (.getfield 57, 3) := by decide +kernel
theorem dX12_turned_60 : decode cX12_turned 60 = .ok (.iload_n 3, 1) := by decide +kernel
theorem dX12_turned_61 : decode cX12_turned 61 = .ok (.iaload, 1) := by decide +kernel
theorem dX12_turned_62 : decode cX12_turned 62 = .ok (.iadd, 1) := by decide +kernel
theorem dX12_turned_63 : decode cX12_turned 63 = .ok (.istore_n 2, 1) := by decide +kernel
theorem dX12_turned_64 : decode cX12_turned 64 = .ok (.iinc 3 1, 3) := by decide +kernel
theorem dX12_turned_67 : decode cX12_turned 67 = .ok (.goto (-25), 3) := by decide +kernel
theorem dX12_turned_70 : decode cX12_turned 70 = .ok (.iload_n 2, 1) := by decide +kernel
theorem dX12_turned_71 : decode cX12_turned 71 = .ok (.ireturn, 1) := by decide +kernel
theorem dX12_isLeft_0 : decode cX12_isLeft 0 = .ok (.aload_n 0, 1) := by decide +kernel
theorem dX12_isLeft_1 : decode cX12_isLeft 1 = .ok (.iload_n 1, 1) := by decide +kernel
theorem dX12_isLeft_2 : decode cX12_isLeft 2 = .ok (.invokevirtual 167, 3) := by decide +kernel
theorem dX12_isLeft_5 : decode cX12_isLeft 5 = .ok (.ifCond .eq 26, 3) := by decide +kernel
theorem dX12_isLeft_8 : decode cX12_isLeft 8 = .ok (.aload_n 0, 1) := by decide +kernel
theorem dX12_isLeft_9 : decode cX12_isLeft 9 = .ok (.iload_n 1, 1) := by decide +kernel
theorem dX12_isLeft_10 : decode cX12_isLeft 10 = .ok (.aload_n 0, 1) := by decide +kernel
theorem dX12_isLeft_11 : decode cX12_isLeft 11 = .ok (.getfield 171, 3) := by decide +kernel
theorem dX12_isLeft_14 : decode cX12_isLeft 14 = .ok (.invokevirtual 174, 3) := by decide +kernel
theorem dX12_isLeft_17 : decode cX12_isLeft 17 = .ok (.invokestatic 177, 3) := by decide +kernel
theorem dX12_isLeft_20 : decode cX12_isLeft 20 = .ok (.aload_n 0, 1) := by decide +kernel
theorem dX12_isLeft_21 : decode cX12_isLeft 21 = .ok (.getfield 180, 3) := by decide +kernel
theorem dX12_isLeft_24 : decode cX12_isLeft 24 = .ok (.if_icmp .gt 7, 3) := by decide +kernel
theorem dX12_isLeft_27 : decode cX12_isLeft 27 = .ok (.iconst 1, 1) := by decide +kernel
theorem dX12_isLeft_28 : decode cX12_isLeft 28 = .ok (.goto 4, 3) := by decide +kernel
theorem dX12_isLeft_31 : decode cX12_isLeft 31 = .ok (.iconst 0, 1) := by decide +kernel
theorem dX12_isLeft_32 : decode cX12_isLeft 32 = .ok (.ireturn, 1) := by decide +kernel
theorem dX12_like_0 : decode cX12_like 0 = .ok (.aload_n 0, 1) := by decide +kernel
theorem dX12_like_1 : decode cX12_like 1 = .ok (.iconst 0, 1) := by decide +kernel
theorem dX12_like_2 : decode cX12_like 2 = .ok (.putfield 139, 3) := by decide +kernel
theorem dX12_like_5 : decode cX12_like 5 = .ok (.aload_n 0, 1) := by decide +kernel
theorem dX12_like_6 : decode cX12_like 6 = .ok (.iload_n 1, 1) := by decide +kernel
theorem dX12_like_7 : decode cX12_like 7 = .ok (.invokevirtual 199, 3) := by decide +kernel
theorem dX12_like_10 : decode cX12_like 10 = .ok (.ifCond .eq 11, 3) := by decide +kernel
theorem dX12_like_13 : decode cX12_like 13 = .ok (.aload_n 0, 1) := by decide +kernel
theorem dX12_like_14 : decode cX12_like 14 = .ok (.iload_n 2, 1) := by decide +kernel
theorem dX12_like_15 : decode cX12_like 15 = .ok (.invokevirtual 199, 3) := by decide +kernel
theorem dX12_like_18 : decode cX12_like 18 = .ok (.ifCond .ne 5, 3) := by decide +kernel
theorem dX12_like_21 : decode cX12_like 21 = .ok (.iconst (-1), 1) := by decide +kernel
theorem dX12_like_22 : decode cX12_like 22 = .ok (.ireturn, 1) := by decide +kernel
theorem dX12_like_23 : decode cX12_like 23 = .ok (.aload_n 0, 1) := by decide +kernel
theorem dX12_like_24 : decode cX12_like 24 = .ok (.getfield 7, 3) := by decide +kernel
theorem dX12_like_27 : decode cX12_like 27 = .ok (.iconst 4, 1) := by decide +kernel
theorem dX12_like_28 : decode cX12_like 28 = .ok (.if_icmp .gt 11, 3) := by decide +kernel
theorem dX12_like_31 : decode cX12_like 31 = .ok (.aload_n 0, 1) := by decide +kernel
theorem dX12_like_32 : decode cX12_like 32 = .ok (.getfield 13, 3) := by decide +kernel
theorem dX12_like_35 : decode cX12_like 35 = .ok (.iconst 5, 1) := by decide +kernel
theorem dX12_like_36 : decode cX12_like 36 = .ok (.if_icmp .le 6, 3) := by decide +kernel
theorem dX12_like_39 : decode cX12_like 39 = .ok (.bipush (-5), 2) := by decide +kernel
theorem dX12_like_41 : decode cX12_like 41 = .ok (.ireturn, 1) := by decide +kernel
theorem dX12_like_42 : decode cX12_like 42 = .ok (.aload_n 0, 1) := by decide +kernel
theorem dX12_like_43 : decode cX12_like 43 = .ok (.invokevirtual 208, 3) := by decide +kernel
theorem dX12_like_46 : decode cX12_like 46 = .ok (.iconst 0, 1) := by decide +kernel
theorem dX12_like_47 : decode cX12_like 47 = .ok (.istore_n 3, 1) := by decide +kernel
theorem dX12_like_48 : decode cX12_like 48 = .ok (.iload_n 3, 1) := by decide +kernel
theorem dX12_like_49 : decode cX12_like 49 = .ok (.aload_n 0, 1) := by decide +kernel
theorem dX12_like_50 : decode cX12_like 50 = .ok (.getfield 16, 3) := by decide +kernel
theorem dX12_like_53 : decode cX12_like 53 = .ok (.if_icmp .ge 20, 3) := by decide +kernel
theorem dX12_like_56 : decode cX12_like 56 = .ok (.aload_n 0, 1) := by decide +kernel
theorem dX12_like_57 : decode cX12_like 57 = .ok (.getfield 60, 3) := by decide +kernel
theorem dX12_like_60 : decode cX12_like 60 = .ok (.iload_n 3, 1) := by decide +kernel
theorem dX12_like_61 : decode cX12_like 61 = .ok (.aload_n 0, 1) := by decide +kernel
theorem dX12_like_62 : decode cX12_like 62 = .ok (.iload_n 3, 1) := by decide +kernel
theorem dX12_like_63 : decode cX12_like 63 = .ok (.invokevirtual 228, 3) := by decide +kernel
theorem dX12_like_66 : decode cX12_like 66 = .ok (.bastore, 1) := by decide +kernel
theorem dX12_like_67 : decode cX12_like 67 = .ok (.iinc 3 1, 3) := by decide +kernel
theorem dX12_like_70 : decode cX12_like 70 = .ok (.goto (-22), 3) := by decide +kernel
theorem dX12_like_73 : decode cX12_like 73 = .ok (.iconst 1, 1) := by decide +kernel
theorem dX12_like_74 : decode cX12_like 74 = .ok (.istore_n 3, 1) := by decide +kernel
theorem dX12_like_75 : decode cX12_like 75 = .ok (.iconst 2, 1) := by decide +kernel
theorem dX12_like_76 : decode cX12_like 76 = .ok (.istore 4, 2) := by decide +kernel
theorem dX12_like_78 : decode cX12_like 78 = .ok (.iload 4, 2) := by decide +kernel
theorem dX12_like_80 : decode cX12_like 80 = .ok (.aload_n 0, 1) := by decide +kernel
theorem dX12_like_81 : decode cX12_like 81 = .ok (.getfield 7, 3) := by decide +kernel
theorem dX12_like_84 : decode cX12_like 84 = .ok (.if_icmp .gt 14, 3) := by decide +kernel
theorem dX12_like_87 : decode cX12_like 87 = .ok (.iload_n 3, 1) := by decide +kernel
theorem dX12_like_88 : decode cX12_like 88 = .ok (.iload 4, 2) := by decide +kernel
theorem dX12_like_90 : decode cX12_like 90 = .ok (.imul, 1) := by decide +kernel
theorem dX12_like_91 : decode cX12_like 91 = .ok (.istore_n 3, 1) := by decide +kernel
theorem dX12_like_92 : decode cX12_like 92 = .ok (.iinc 4 1, 3) := by decide +kernel
theorem dX12_like_95 : decode cX12_like 95 = .ok (.goto (-17), 3) := by decide +kernel
theorem dX12_like_98 : decode cX12_like 98 = .ok (.iconst 1, 1) := by decide +kernel
theorem dX12_like_99 : decode cX12_like 99 = .ok (.istore 4, 2) := by decide +kernel
theorem dX12_like_101 : decode cX12_like 101 = .ok (.iconst 2, 1) := by decide +kernel
theorem dX12_like_102 : decode cX12_like 102 = .ok (.istore 5, 2) := by decide +kernel
theorem dX12_like_104 : decode cX12_like 104 = .ok (.iload 5, 2) := by decide +kernel
theorem dX12_like_106 : decode cX12_like 106 = .ok (.aload_n 0, 1) := by decide +kernel
theorem dX12_like_107 : decode cX12_like 107 = .ok (.getfield 13, 3) := by decide +kernel
theorem dX12_like_110 : decode cX12_like 110 = .ok (.if_icmp .gt 16, 3) := by decide +kernel
theorem dX12_like_113 : decode cX12_like 113 = .ok (.iload 4, 2) := by decide +kernel
theorem dX12_like_115 : decode cX12_like 115 = .ok (.iload 5, 2) := by decide +kernel
theorem dX12_like_117 : decode cX12_like 117 = .ok (.imul, 1) := by decide +kernel
theorem dX12_like_118 : decode cX12_like 118 = .ok (.istore 4, 2) := by decide +kernel
theorem dX12_like_120 : decode cX12_like 120 = .ok (.iinc 5 1, 3) := by decide +kernel
theorem dX12_like_123 : decode cX12_like 123 = .ok (.goto (-19), 3) := by decide +kernel
theorem dX12_like_126 : decode cX12_like 126 = .ok (.iconst 0, 1) := by decide +kernel
theorem dX12_like_127 : decode cX12_like 127 = .ok (.istore 5, 2) := by decide +kernel
theorem dX12_like_129 : decode cX12_like 129 = .ok (.iload 5, 2) := by decide +kernel
theorem dX12_like_131 : decode cX12_like 131 = .ok (.iload_n 3, 1) := by decide +kernel
theorem dX12_like_132 : decode cX12_like 132 = .ok (.if_icmp .ge 114, 3) := by decide +kernel
theorem dX12_like_135 : decode cX12_like 135 = .ok (.aload_n 0, 1) := by decide +kernel
theorem dX12_like_136 : decode cX12_like 136 = .ok (.getfield 51, 3) := by decide +kernel
theorem dX12_like_139 : decode cX12_like 139 = .ok (.aload_n 0, 1) := by decide +kernel
theorem dX12_like_140 : decode cX12_like 140 = .ok (.getfield 7, 3) := by decide +kernel
theorem dX12_like_143 : decode cX12_like 143 = .ok (.iload 5, 2) := by decide +kernel
theorem dX12_like_145 : decode cX12_like 145 = .ok (.invokestatic 231, 3) := by decide +kernel
theorem dX12_like_148 : decode cX12_like 148 = .ok (.iconst 0, 1) := by decide +kernel
theorem dX12_like_149 : decode cX12_like 149 = .ok (.istore 6, 2) := by decide +kernel
theorem dX12_like_151 : decode cX12_like 151 = .ok (.iload 6, 2) := by decide +kernel
theorem dX12_like_153 : decode cX12_like 153 = .ok (.iload 4, 2) := by decide +kernel
theorem dX12_like_155 : decode cX12_like 155 = .ok (.if_icmp .ge 85, 3) := by decide +kernel
theorem dX12_like_158 : decode cX12_like 158 = .ok (.aload_n 0, 1) := by decide +kernel
theorem dX12_like_159 : decode cX12_like 159 = .ok (.getfield 54, 3) := by decide +kernel
theorem dX12_like_162 : decode cX12_like 162 = .ok (.aload_n 0, 1) := by decide +kernel
theorem dX12_like_163 : decode cX12_like 163 = .ok (.getfield 13, 3) := by decide +kernel
theorem dX12_like_166 : decode cX12_like 166 = .ok (.iload 6, 2) := by decide +kernel
theorem dX12_like_168 : decode cX12_like 168 = .ok (.invokestatic 231, 3) := by decide +kernel
theorem dX12_like_171 : decode cX12_like 171 = .ok (.aload_n 0, 1) := by decide +kernel
theorem dX12_like_172 : decode cX12_like 172 = .ok (.iload_n 1, 1) := by decide +kernel
theorem dX12_like_173 : decode cX12_like 173 = .ok (.invokevirtual 235, 3) := by decide +kernel
theorem dX12_like_176 : decode cX12_like 176 = .ok (.iload_n 2, 1) := by decide +kernel
theorem dX12_like_177 : decode cX12_like 177 = .ok (.if_icmp .eq 6, 3) := by decide +kernel
theorem dX12_like_180 : decode cX12_like 180 = .ok (.goto 54, 3) := by decide +kernel
theorem dX12_like_183 : decode cX12_like 183 = .ok (.iconst 1, 1) := by decide +kernel
theorem dX12_like_184 : decode cX12_like 184 = .ok (.istore 7, 2) := by decide +kernel
theorem dX12_like_186 : decode cX12_like 186 = .ok (.iconst 0, 1) := by decide +kernel
theorem dX12_like_187 : decode cX12_like 187 = .ok (.istore 8, 2) := by decide +kernel
theorem dX12_like_189 : decode cX12_like 189 = .ok (.iload 8, 2) := by decide +kernel
theorem dX12_like_191 : decode cX12_like 191 = .ok (.aload_n 0, 1) := by decide +kernel
theorem dX12_like_192 : decode cX12_like 192 = .ok (.getfield 164, 3) := by decide +kernel
theorem dX12_like_195 : decode cX12_like 195 = .ok (.if_icmp .ge 32, 3) := by decide +kernel
theorem dX12_like_198 : decode cX12_like 198 = .ok (.iload 7, 2) := by decide +kernel
theorem dX12_like_200 : decode cX12_like 200 = .ok (.ifCond .eq 27, 3) := by decide +kernel
theorem dX12_like_203 : decode cX12_like 203 = .ok (.aload_n 0, 1) := by decide +kernel
theorem dX12_like_204 : decode cX12_like 204 = .ok (.getfield 60, 3) := by decide +kernel
theorem dX12_like_207 : decode cX12_like 207 = .ok (.aload_n 0, 1) := by decide +kernel
theorem dX12_like_208 : decode cX12_like 208 = .ok (.aload_n 0, 1) := by decide +kernel
theorem dX12_like_209 : decode cX12_like 209 = .ok (.getfield 42, 3) := by decide +kernel
theorem dX12_like_212 : decode cX12_like 212 = .ok (.iload 8, 2) := by decide +kernel
theorem dX12_like_214 : decode cX12_like 214 = .ok (.iaload, 1) := by decide +kernel
theorem dX12_like_215 : decode cX12_like 215 = .ok (.invokevirtual 235, 3) := by decide +kernel
theorem dX12_like_218 : decode cX12_like 218 = .ok (.baload, 1) := by decide +kernel
theorem dX12_like_219 : decode cX12_like 219 = .ok (.istore 7, 2) := by decide +kernel
theorem dX12_like_221 : decode cX12_like 221 = .ok (.iinc 8 1, 3) := by decide +kernel
theorem dX12_like_224 : decode cX12_like 224 = .ok (.goto (-35), 3) := by decide +kernel
theorem dX12_like_227 : decode cX12_like 227 = .ok (.iload 7, 2) := by decide +kernel
theorem dX12_like_229 : decode cX12_like 229 = .ok (.ifCond .eq 5, 3) := by decide +kernel
theorem dX12_like_232 : decode cX12_like 232 = .ok (.iconst 1, 1) := by decide +kernel
theorem dX12_like_233 : decode cX12_like 233 = .ok (.ireturn, 1) := by decide +kernel
theorem dX12_like_234 : decode cX12_like 234 = .ok (.iinc 6 1, 3) := by decide +kernel
theorem dX12_like_237 : decode cX12_like 237 = .ok (.goto (-86), 3) := by decide +kernel
theorem dX12_like_240 : decode cX12_like 240 = .ok (.iinc 5 1, 3) := by decide +kernel
theorem dX12_like_243 : decode cX12_like 243 = .ok (.goto (-114), 3) := by decide +kernel
theorem dX12_like_246 : decode cX12_like 246 = .ok (.iconst 0, 1) := by decide +kernel
theorem dX12_like_247 : decode cX12_like 247 = .ok (.ireturn, 1) := by decide +kernel
theorem dX12_refusedTree_0 : decode cX12_refusedTree 0 = .ok (.iload_n 1, 1) := by decide +kernel
theorem dX12_refusedTree_1 : decode cX12_refusedTree 1 = .ok (.iconst 0, 1) := by decide +kernel
theorem dX12_refusedTree_2 : decode cX12_refusedTree 2 = .ok (.iconst 1, 1) := by decide +kernel
theorem dX12_refusedTree_3 : decode cX12_refusedTree 3 = .ok (.invokestatic 142, 3) := by decide +kernel
theorem dX12_refusedTree_6 : decode cX12_refusedTree 6 = .ok (.ifCond .ne 5, 3) := by decide +kernel
theorem dX12_refusedTree_9 : decode cX12_refusedTree 9 = .ok (.iconst (-1), 1) := by decide +kernel
theorem dX12_refusedTree_10 : decode cX12_refusedTree 10 = .ok (.ireturn, 1) := by decide +kernel
theorem dX12_refusedTree_11 : decode cX12_refusedTree 11 = .ok (.aload_n 0, 1) := by decide +kernel
theorem dX12_refusedTree_12 : decode cX12_refusedTree 12 = .ok (.getfield 180, 3) := by decide +kernel
theorem dX12_refusedTree_15 : decode cX12_refusedTree 15 = .ok (.ifCond .eq 6, 3) := by decide +kernel
theorem dX12_refusedTree_18 : decode cX12_refusedTree 18 = .ok (.bipush (-6), 2) := by decide +kernel
theorem dX12_refusedTree_20 : decode cX12_refusedTree 20 = .ok (.ireturn, 1) := by decide +kernel
theorem dX12_refusedTree_21 : decode cX12_refusedTree 21 = .ok (.aload_n 0, 1) := by decide +kernel
theorem dX12_refusedTree_22 : decode cX12_refusedTree 22 = .ok (.invokevirtual 208, 3) := by decide +kernel
theorem dX12_refusedTree_25 : decode cX12_refusedTree 25 = .ok (.aload_n 0, 1) := by decide +kernel
theorem dX12_refusedTree_26 : decode cX12_refusedTree 26 = .ok (.getfield 164, 3) := by decide +kernel
theorem dX12_refusedTree_29 : decode cX12_refusedTree 29 = .ok (.ifCond .eq 22, 3) := by decide +kernel
theorem dX12_refusedTree_32 : decode cX12_refusedTree 32 = .ok (.aload_n 0, 1) := by decide +kernel
theorem dX12_refusedTree_33 : decode cX12_refusedTree 33 = .ok (.getfield 164, 3) := by decide +kernel
theorem dX12_refusedTree_36 : decode cX12_refusedTree 36 = .ok (.bipush 10, 2) := by decide +kernel
theorem dX12_refusedTree_38 : decode cX12_refusedTree 38 = .ok (.if_icmp .gt 13, 3) := by decide +kernel
theorem dX12_refusedTree_41 : decode cX12_refusedTree 41 = .ok (.aload_n 0, 1) := by decide +kernel
theorem dX12_refusedTree_42 : decode cX12_refusedTree 42 = .ok (.getfield 16, 3) := by decide +kernel
theorem dX12_refusedTree_45 : decode cX12_refusedTree 45 = .ok (.sipush 1296, 3) := by decide +kernel
theorem dX12_refusedTree_48 : decode cX12_refusedTree 48 = .ok (.if_icmp .le 8, 3) := by decide +kernel
theorem dX12_refusedTree_51 : decode cX12_refusedTree 51 = .ok (.bipush (-5), 2) := by decide +kernel
theorem dX12_refusedTree_53 : decode cX12_refusedTree 53 = .ok (.goto 4, 3) := by decide +kernel
theorem dX12_refusedTree_56 : decode cX12_refusedTree 56 = .ok (.iconst 0, 1) := by decide +kernel
theorem dX12_refusedTree_57 : decode cX12_refusedTree 57 = .ok (.ireturn, 1) := by decide +kernel
theorem dX12_split_0 : decode cX12_split 0 = .ok (.aload_n 0, 1) := by decide +kernel
theorem dX12_split_1 : decode cX12_split 1 = .ok (.iconst 0, 1) := by decide +kernel
theorem dX12_split_2 : decode cX12_split 2 = .ok (.putfield 238, 3) := by decide +kernel
theorem dX12_split_5 : decode cX12_split 5 = .ok (.iconst 0, 1) := by decide +kernel
theorem dX12_split_6 : decode cX12_split 6 = .ok (.istore_n 3, 1) := by decide +kernel
theorem dX12_split_7 : decode cX12_split 7 = .ok (.iconst 0, 1) := by decide +kernel
theorem dX12_split_8 : decode cX12_split 8 = .ok (.istore 4, 2) := by decide +kernel
theorem dX12_split_10 : decode cX12_split 10 = .ok (.iload 4, 2) := by decide +kernel
theorem dX12_split_12 : decode cX12_split 12 = .ok (.aload_n 0, 1) := by decide +kernel
theorem dX12_split_13 : decode cX12_split 13 = .ok (.getfield 164, 3) := by decide +kernel
theorem dX12_split_16 : decode cX12_split 16 = .ok (.if_icmp .ge 132, 3) := by decide +kernel
theorem dX12_split_19 : decode cX12_split 19 = .ok (.iload_n 2, 1) := by decide +kernel
theorem dX12_split_20 : decode cX12_split 20 = .ok (.iload 4, 2) := by decide +kernel
theorem dX12_split_22 : decode cX12_split 22 = .ok (.ishr, 1) := by decide +kernel
theorem dX12_split_23 : decode cX12_split 23 = .ok (.iconst 1, 1) := by decide +kernel
theorem dX12_split_24 : decode cX12_split 24 = .ok (.iand, 1) := by decide +kernel
theorem dX12_split_25 : decode cX12_split 25 = .ok (.ifCond .ne 6, 3) := by decide +kernel
theorem dX12_split_28 : decode cX12_split 28 = .ok (.goto 114, 3) := by decide +kernel
theorem dX12_split_31 : decode cX12_split 31 = .ok (.aload_n 0, 1) := by decide +kernel
theorem dX12_split_32 : decode cX12_split 32 = .ok (.getfield 76, 3) := by decide +kernel
theorem dX12_split_35 : decode cX12_split 35 = .ok (.bipush 10, 2) := by decide +kernel
theorem dX12_split_37 : decode cX12_split 37 = .ok (.iload_n 1, 1) := by decide +kernel
theorem dX12_split_38 : decode cX12_split 38 = .ok (.imul, 1) := by decide +kernel
theorem dX12_split_39 : decode cX12_split 39 = .ok (.iload 4, 2) := by decide +kernel
theorem dX12_split_41 : decode cX12_split 41 = .ok (.iadd, 1) := by decide +kernel
theorem dX12_split_42 : decode cX12_split 42 = .ok (.iaload, 1) := by decide +kernel
theorem dX12_split_43 : decode cX12_split 43 = .ok (.istore 5, 2) := by decide +kernel
theorem dX12_split_45 : decode cX12_split 45 = .ok (.iload 5, 2) := by decide +kernel
theorem dX12_split_47 : decode cX12_split 47 = .ok (.bipush 10, 2) := by decide +kernel
theorem dX12_split_49 : decode cX12_split 49 = .ok (.aload_n 0, 1) := by decide +kernel
theorem dX12_split_50 : decode cX12_split 50 = .ok (.getfield 7, 3) := by decide +kernel
theorem dX12_split_53 : decode cX12_split 53 = .ok (.imul, 1) := by decide +kernel
theorem dX12_split_54 : decode cX12_split 54 = .ok (.if_icmp .ne 8, 3) := by decide +kernel
theorem dX12_split_57 : decode cX12_split 57 = .ok (.iconst 1, 1) := by decide +kernel
theorem dX12_split_58 : decode cX12_split 58 = .ok (.istore_n 3, 1) := by decide +kernel
theorem dX12_split_59 : decode cX12_split 59 = .ok (.goto 83, 3) := by decide +kernel
theorem dX12_split_62 : decode cX12_split 62 = .ok (.iconst 0, 1) := by decide +kernel
theorem dX12_split_63 : decode cX12_split 63 = .ok (.istore 6, 2) := by decide +kernel
theorem dX12_split_65 : decode cX12_split 65 = .ok (.iload 6, 2) := by decide +kernel
theorem dX12_split_67 : decode cX12_split 67 = .ok (.aload_n 0, 1) := by decide +kernel
theorem dX12_split_68 : decode cX12_split 68 = .ok (.getfield 238, 3) := by decide +kernel
theorem dX12_split_71 : decode cX12_split 71 = .ok (.if_icmp .ge 21, 3) := by decide +kernel
theorem dX12_split_74 : decode cX12_split 74 = .ok (.aload_n 0, 1) := by decide +kernel
theorem dX12_split_75 : decode cX12_split 75 = .ok (.getfield 82, 3) := by decide +kernel
theorem dX12_split_78 : decode cX12_split 78 = .ok (.iload 6, 2) := by decide +kernel
theorem dX12_split_80 : decode cX12_split 80 = .ok (.iaload, 1) := by decide +kernel
theorem dX12_split_81 : decode cX12_split 81 = .ok (.iload 5, 2) := by decide +kernel
theorem dX12_split_83 : decode cX12_split 83 = .ok (.if_icmp .eq 9, 3) := by decide +kernel
theorem dX12_split_86 : decode cX12_split 86 = .ok (.iinc 6 1, 3) := by decide +kernel
theorem dX12_split_89 : decode cX12_split 89 = .ok (.goto (-24), 3) := by decide +kernel
theorem dX12_split_92 : decode cX12_split 92 = .ok (.iload 6, 2) := by decide +kernel
theorem dX12_split_94 : decode cX12_split 94 = .ok (.aload_n 0, 1) := by decide +kernel
theorem dX12_split_95 : decode cX12_split 95 = .ok (.getfield 238, 3) := by decide +kernel
theorem dX12_split_98 : decode cX12_split 98 = .ok (.if_icmp .ne 30, 3) := by decide +kernel
theorem dX12_split_101 : decode cX12_split 101 = .ok (.aload_n 0, 1) := by decide +kernel
theorem dX12_split_102 : decode cX12_split 102 = .ok (.getfield 82, 3) := by decide +kernel
theorem dX12_split_105 : decode cX12_split 105 = .ok (.iload 6, 2) := by decide +kernel
theorem dX12_split_107 : decode cX12_split 107 = .ok (.iload 5, 2) := by decide +kernel
theorem dX12_split_109 : decode cX12_split 109 = .ok (.iastore, 1) := by decide +kernel
theorem dX12_split_110 : decode cX12_split 110 = .ok (.aload_n 0, 1) := by decide +kernel
theorem dX12_split_111 : decode cX12_split 111 = .ok (.getfield 79, 3) := by decide +kernel
theorem dX12_split_114 : decode cX12_split 114 = .ok (.iload 6, 2) := by decide +kernel
theorem dX12_split_116 : decode cX12_split 116 = .ok (.iconst 0, 1) := by decide +kernel
theorem dX12_split_117 : decode cX12_split 117 = .ok (.iastore, 1) := by decide +kernel
theorem dX12_split_118 : decode cX12_split 118 = .ok (.aload_n 0, 1) := by decide +kernel
theorem dX12_split_119 : decode cX12_split 119 = .ok (.dup, 1) := by decide +kernel
theorem dX12_split_120 : decode cX12_split 120 = .ok (.getfield 238, 3) := by decide +kernel
theorem dX12_split_123 : decode cX12_split 123 = .ok (.iconst 1, 1) := by decide +kernel
theorem dX12_split_124 : decode cX12_split 124 = .ok (.iadd, 1) := by decide +kernel
theorem dX12_split_125 : decode cX12_split 125 = .ok (.putfield 238, 3) := by decide +kernel
theorem dX12_split_128 : decode cX12_split 128 = .ok (.aload_n 0, 1) := by decide +kernel
theorem dX12_split_129 : decode cX12_split 129 = .ok (.getfield 79, 3) := by decide +kernel
theorem dX12_split_132 : decode cX12_split 132 = .ok (.iload 6, 2) := by decide +kernel
theorem dX12_split_134 : decode cX12_split 134 = .ok (.dup2, 1) := by decide +kernel
theorem dX12_split_135 : decode cX12_split 135 = .ok (.iaload, 1) := by decide +kernel
theorem dX12_split_136 : decode cX12_split 136 = .ok (.iconst 1, 1) := by decide +kernel
theorem dX12_split_137 : decode cX12_split 137 = .ok (.iload 4, 2) := by decide +kernel
theorem dX12_split_139 : decode cX12_split 139 = .ok (.ishl, 1) := by decide +kernel
theorem dX12_split_140 : decode cX12_split 140 = .ok (.ior, 1) := by decide +kernel
theorem dX12_split_141 : decode cX12_split 141 = .ok (.iastore, 1) := by decide +kernel
theorem dX12_split_142 : decode cX12_split 142 = .ok (.iinc 4 1, 3) := by decide +kernel
theorem dX12_split_145 : decode cX12_split 145 = .ok (.goto (-135), 3) := by decide +kernel
theorem dX12_split_148 : decode cX12_split 148 = .ok (.aload_n 0, 1) := by decide +kernel
theorem dX12_split_149 : decode cX12_split 149 = .ok (.getfield 238, 3) := by decide +kernel
theorem dX12_split_152 : decode cX12_split 152 = .ok (.iload_n 3, 1) := by decide +kernel
theorem dX12_split_153 : decode cX12_split 153 = .ok (.iadd, 1) := by decide +kernel
theorem dX12_split_154 : decode cX12_split 154 = .ok (.ireturn, 1) := by decide +kernel
theorem dX12_isIn_0 : decode cX12_isIn 0 = .ok (.iconst 0, 1) := by decide +kernel
theorem dX12_isIn_1 : decode cX12_isIn 1 = .ok (.istore_n 3, 1) := by decide +kernel
theorem dX12_isIn_2 : decode cX12_isIn 2 = .ok (.iload_n 3, 1) := by decide +kernel
theorem dX12_isIn_3 : decode cX12_isIn 3 = .ok (.aload_n 0, 1) := by decide +kernel
theorem dX12_isIn_4 : decode cX12_isIn 4 = .ok (.getfield 164, 3) := by decide +kernel
theorem dX12_isIn_7 : decode cX12_isIn 7 = .ok (.if_icmp .ge 30, 3) := by decide +kernel
theorem dX12_isIn_10 : decode cX12_isIn 10 = .ok (.iload_n 2, 1) := by decide +kernel
theorem dX12_isIn_11 : decode cX12_isIn 11 = .ok (.iload_n 3, 1) := by decide +kernel
theorem dX12_isIn_12 : decode cX12_isIn 12 = .ok (.ishr, 1) := by decide +kernel
theorem dX12_isIn_13 : decode cX12_isIn 13 = .ok (.iconst 1, 1) := by decide +kernel
theorem dX12_isIn_14 : decode cX12_isIn 14 = .ok (.iand, 1) := by decide +kernel
theorem dX12_isIn_15 : decode cX12_isIn 15 = .ok (.iconst 1, 1) := by decide +kernel
theorem dX12_isIn_16 : decode cX12_isIn 16 = .ok (.if_icmp .ne 15, 3) := by decide +kernel
theorem dX12_isIn_19 : decode cX12_isIn 19 = .ok (.aload_n 0, 1) := by decide +kernel
theorem dX12_isIn_20 : decode cX12_isIn 20 = .ok (.getfield 42, 3) := by decide +kernel
theorem dX12_isIn_23 : decode cX12_isIn 23 = .ok (.iload_n 3, 1) := by decide +kernel
theorem dX12_isIn_24 : decode cX12_isIn 24 = .ok (.iaload, 1) := by decide +kernel
theorem dX12_isIn_25 : decode cX12_isIn 25 = .ok (.iload_n 1, 1) := by decide +kernel
theorem dX12_isIn_26 : decode cX12_isIn 26 = .ok (.if_icmp .ne 5, 3) := by decide +kernel
theorem dX12_isIn_29 : decode cX12_isIn 29 = .ok (.iconst 1, 1) := by decide +kernel
theorem dX12_isIn_30 : decode cX12_isIn 30 = .ok (.ireturn, 1) := by decide +kernel
theorem dX12_isIn_31 : decode cX12_isIn 31 = .ok (.iinc 3 1, 3) := by decide +kernel
theorem dX12_isIn_34 : decode cX12_isIn 34 = .ok (.goto (-32), 3) := by decide +kernel
theorem dX12_isIn_37 : decode cX12_isIn 37 = .ok (.iconst 0, 1) := by decide +kernel
theorem dX12_isIn_38 : decode cX12_isIn 38 = .ok (.ireturn, 1) := by decide +kernel
theorem dX12_trees_0 : decode cX12_trees 0 = .ok (.iconst 0, 1) := by decide +kernel
theorem dX12_trees_1 : decode cX12_trees 1 = .ok (.istore_n 2, 1) := by decide +kernel
theorem dX12_trees_2 : decode cX12_trees 2 = .ok (.iload_n 2, 1) := by decide +kernel
theorem dX12_trees_3 : decode cX12_trees 3 = .ok (.aload_n 0, 1) := by decide +kernel
theorem dX12_trees_4 : decode cX12_trees 4 = .ok (.getfield 16, 3) := by decide +kernel
theorem dX12_trees_7 : decode cX12_trees 7 = .ok (.if_icmp .ge 51, 3) := by decide +kernel
theorem dX12_trees_10 : decode cX12_trees 10 = .ok (.aload_n 0, 1) := by decide +kernel
theorem dX12_trees_11 : decode cX12_trees 11 = .ok (.iload_n 2, 1) := by decide +kernel
theorem dX12_trees_12 : decode cX12_trees 12 = .ok (.invokevirtual 214, 3) := by decide +kernel
theorem dX12_trees_15 : decode cX12_trees 15 = .ok (.iconst 0, 1) := by decide +kernel
theorem dX12_trees_16 : decode cX12_trees 16 = .ok (.istore_n 3, 1) := by decide +kernel
theorem dX12_trees_17 : decode cX12_trees 17 = .ok (.iload_n 3, 1) := by decide +kernel
theorem dX12_trees_18 : decode cX12_trees 18 = .ok (.aload_n 0, 1) := by decide +kernel
theorem dX12_trees_19 : decode cX12_trees 19 = .ok (.getfield 164, 3) := by decide +kernel
theorem dX12_trees_22 : decode cX12_trees 22 = .ok (.if_icmp .ge 30, 3) := by decide +kernel
theorem dX12_trees_25 : decode cX12_trees 25 = .ok (.aload_n 0, 1) := by decide +kernel
theorem dX12_trees_26 : decode cX12_trees 26 = .ok (.getfield 76, 3) := by decide +kernel
theorem dX12_trees_29 : decode cX12_trees 29 = .ok (.bipush 10, 2) := by decide +kernel
theorem dX12_trees_31 : decode cX12_trees 31 = .ok (.iload_n 2, 1) := by decide +kernel
theorem dX12_trees_32 : decode cX12_trees 32 = .ok (.imul, 1) := by decide +kernel
theorem dX12_trees_33 : decode cX12_trees 33 = .ok (.iload_n 3, 1) := by decide +kernel
theorem dX12_trees_34 : decode cX12_trees 34 = .ok (.iadd, 1) := by decide +kernel
theorem dX12_trees_35 : decode cX12_trees 35 = .ok (.aload_n 0, 1) := by decide +kernel
theorem dX12_trees_36 : decode cX12_trees 36 = .ok (.aload_n 0, 1) := by decide +kernel
theorem dX12_trees_37 : decode cX12_trees 37 = .ok (.getfield 42, 3) := by decide +kernel
theorem dX12_trees_40 : decode cX12_trees 40 = .ok (.iload_n 3, 1) := by decide +kernel
theorem dX12_trees_41 : decode cX12_trees 41 = .ok (.iaload, 1) := by decide +kernel
theorem dX12_trees_42 : decode cX12_trees 42 = .ok (.invokevirtual 160, 3) := by decide +kernel
theorem dX12_trees_45 : decode cX12_trees 45 = .ok (.iastore, 1) := by decide +kernel
theorem dX12_trees_46 : decode cX12_trees 46 = .ok (.iinc 3 1, 3) := by decide +kernel
theorem dX12_trees_49 : decode cX12_trees 49 = .ok (.goto (-32), 3) := by decide +kernel
theorem dX12_trees_52 : decode cX12_trees 52 = .ok (.iinc 2 1, 3) := by decide +kernel
theorem dX12_trees_55 : decode cX12_trees 55 = .ok (.goto (-53), 3) := by decide +kernel
theorem dX12_trees_58 : decode cX12_trees 58 = .ok (.iconst 1, 1) := by decide +kernel
theorem dX12_trees_59 : decode cX12_trees 59 = .ok (.istore_n 2, 1) := by decide +kernel
theorem dX12_trees_60 : decode cX12_trees 60 = .ok (.iload_n 2, 1) := by decide +kernel
theorem dX12_trees_61 : decode cX12_trees 61 = .ok (.iconst 1, 1) := by decide +kernel
theorem dX12_trees_62 : decode cX12_trees 62 = .ok (.aload_n 0, 1) := by decide +kernel
theorem dX12_trees_63 : decode cX12_trees 63 = .ok (.getfield 164, 3) := by decide +kernel
theorem dX12_trees_66 : decode cX12_trees 66 = .ok (.ishl, 1) := by decide +kernel
theorem dX12_trees_67 : decode cX12_trees 67 = .ok (.if_icmp .ge 353, 3) := by decide +kernel
theorem dX12_trees_70 : decode cX12_trees 70 = .ok (.iload_n 2, 1) := by decide +kernel
theorem dX12_trees_71 : decode cX12_trees 71 = .ok (.invokestatic 177, 3) := by decide +kernel
theorem dX12_trees_74 : decode cX12_trees 74 = .ok (.istore_n 3, 1) := by decide +kernel
theorem dX12_trees_75 : decode cX12_trees 75 = .ok (.aload_n 0, 1) := by decide +kernel
theorem dX12_trees_76 : decode cX12_trees 76 = .ok (.getfield 63, 3) := by decide +kernel
theorem dX12_trees_79 : decode cX12_trees 79 = .ok (.iload_n 2, 1) := by decide +kernel
theorem dX12_trees_80 : decode cX12_trees 80 = .ok (.ldc 227, 2) := by decide +kernel
theorem dX12_trees_82 : decode cX12_trees 82 = .ok (.iastore, 1) := by decide +kernel
theorem dX12_trees_83 : decode cX12_trees 83 = .ok (.iconst 0, 1) := by decide +kernel
theorem dX12_trees_84 : decode cX12_trees 84 = .ok (.istore 4, 2) := by decide +kernel
theorem dX12_trees_86 : decode cX12_trees 86 = .ok (.iload 4, 2) := by decide +kernel
theorem dX12_trees_88 : decode cX12_trees 88 = .ok (.bipush 11, 2) := by decide +kernel
theorem dX12_trees_90 : decode cX12_trees 90 = .ok (.if_icmp .ge 24, 3) := by decide +kernel
theorem dX12_trees_93 : decode cX12_trees 93 = .ok (.aload_n 0, 1) := by decide +kernel
theorem dX12_trees_94 : decode cX12_trees 94 = .ok (.getfield 69, 3) := by decide +kernel
theorem dX12_trees_97 : decode cX12_trees 97 = .ok (.sipush 1024, 3) := by decide +kernel
theorem dX12_trees_100 : decode cX12_trees 100 = .ok (.iload 4, 2) := by decide +kernel
theorem dX12_trees_102 : decode cX12_trees 102 = .ok (.imul, 1) := by decide +kernel
theorem dX12_trees_103 : decode cX12_trees 103 = .ok (.iload_n 2, 1) := by decide +kernel
theorem dX12_trees_104 : decode cX12_trees 104 = .ok (.iadd, 1) := by decide +kernel
theorem dX12_trees_105 : decode cX12_trees 105 = .ok (.ldc 227, 2) := by decide +kernel
theorem dX12_trees_107 : decode cX12_trees 107 = .ok (.iastore, 1) := by decide +kernel
theorem dX12_trees_108 : decode cX12_trees 108 = .ok (.iinc 4 1, 3) := by decide +kernel
theorem dX12_trees_111 : decode cX12_trees 111 = .ok (.goto (-25), 3) := by decide +kernel
theorem dX12_trees_114 : decode cX12_trees 114 = .ok (.iconst 0, 1) := by decide +kernel
theorem dX12_trees_115 : decode cX12_trees 115 = .ok (.istore 4, 2) := by decide +kernel
theorem dX12_trees_117 : decode cX12_trees 117 = .ok (.iload 4, 2) := by decide +kernel
theorem dX12_trees_119 : decode cX12_trees 119 = .ok (.aload_n 0, 1) := by decide +kernel
theorem dX12_trees_120 : decode cX12_trees 120 = .ok (.getfield 16, 3) := by decide +kernel
theorem dX12_trees_123 : decode cX12_trees 123 = .ok (.if_icmp .ge 291, 3) := by decide +kernel
theorem dX12_trees_126 : decode cX12_trees 126 = .ok (.iload_n 1, 1) := by decide +kernel
theorem dX12_trees_127 : decode cX12_trees 127 = .ok (.iconst 1, 1) := by decide +kernel
theorem dX12_trees_128 : decode cX12_trees 128 = .ok (.if_icmp .eq 8, 3) := by decide +kernel
theorem dX12_trees_131 : decode cX12_trees 131 = .ok (.iload_n 3, 1) := by decide +kernel
theorem dX12_trees_132 : decode cX12_trees 132 = .ok (.iconst 1, 1) := by decide +kernel
theorem dX12_trees_133 : decode cX12_trees 133 = .ok (.if_icmp .ne 16, 3) := by decide +kernel
theorem dX12_trees_136 : decode cX12_trees 136 = .ok (.aload_n 0, 1) := by decide +kernel
theorem dX12_trees_137 : decode cX12_trees 137 = .ok (.iload 4, 2) := by decide +kernel
theorem dX12_trees_139 : decode cX12_trees 139 = .ok (.iload_n 2, 1) := by decide +kernel
theorem dX12_trees_140 : decode cX12_trees 140 = .ok (.invokevirtual 241, 3) := by decide +kernel
theorem dX12_trees_143 : decode cX12_trees 143 = .ok (.ifCond .ne 6, 3) := by decide +kernel
theorem dX12_trees_146 : decode cX12_trees 146 = .ok (.goto 262, 3) := by decide +kernel
theorem dX12_trees_149 : decode cX12_trees 149 = .ok (.aload_n 0, 1) := by decide +kernel
theorem dX12_trees_150 : decode cX12_trees 150 = .ok (.iload 4, 2) := by decide +kernel
theorem dX12_trees_152 : decode cX12_trees 152 = .ok (.iload_n 2, 1) := by decide +kernel
theorem dX12_trees_153 : decode cX12_trees 153 = .ok (.invokevirtual 245, 3) := by decide +kernel
theorem dX12_trees_156 : decode cX12_trees 156 = .ok (.iconst 1, 1) := by decide +kernel
theorem dX12_trees_157 : decode cX12_trees 157 = .ok (.if_icmp .ne 11, 3) := by decide +kernel
theorem dX12_trees_160 : decode cX12_trees 160 = .ok (.iload_n 3, 1) := by decide +kernel
theorem dX12_trees_161 : decode cX12_trees 161 = .ok (.iconst 1, 1) := by decide +kernel
theorem dX12_trees_162 : decode cX12_trees 162 = .ok (.if_icmp .le 6, 3) := by decide +kernel
theorem dX12_trees_165 : decode cX12_trees 165 = .ok (.goto 243, 3) := by decide +kernel
theorem dX12_trees_168 : decode cX12_trees 168 = .ok (.iconst 0, 1) := by decide +kernel
theorem dX12_trees_169 : decode cX12_trees 169 = .ok (.istore 5, 2) := by decide +kernel
theorem dX12_trees_171 : decode cX12_trees 171 = .ok (.iconst 0, 1) := by decide +kernel
theorem dX12_trees_172 : decode cX12_trees 172 = .ok (.istore 6, 2) := by decide +kernel
theorem dX12_trees_174 : decode cX12_trees 174 = .ok (.iload 6, 2) := by decide +kernel
theorem dX12_trees_176 : decode cX12_trees 176 = .ok (.aload_n 0, 1) := by decide +kernel
theorem dX12_trees_177 : decode cX12_trees 177 = .ok (.getfield 238, 3) := by decide +kernel
theorem dX12_trees_180 : decode cX12_trees 180 = .ok (.if_icmp .ge 40, 3) := by decide +kernel
theorem dX12_trees_183 : decode cX12_trees 183 = .ok (.aload_n 0, 1) := by decide +kernel
theorem dX12_trees_184 : decode cX12_trees 184 = .ok (.getfield 63, 3) := by decide +kernel
theorem dX12_trees_187 : decode cX12_trees 187 = .ok (.aload_n 0, 1) := by decide +kernel
theorem dX12_trees_188 : decode cX12_trees 188 = .ok (.getfield 79, 3) := by decide +kernel
theorem dX12_trees_191 : decode cX12_trees 191 = .ok (.iload 6, 2) := by decide +kernel
theorem dX12_trees_193 : decode cX12_trees 193 = .ok (.iaload, 1) := by decide +kernel
theorem dX12_trees_194 : decode cX12_trees 194 = .ok (.iaload, 1) := by decide +kernel
theorem dX12_trees_195 : decode cX12_trees 195 = .ok (.iload 5, 2) := by decide +kernel
theorem dX12_trees_197 : decode cX12_trees 197 = .ok (.if_icmp .le 17, 3) := by decide +kernel
theorem dX12_trees_200 : decode cX12_trees 200 = .ok (.aload_n 0, 1) := by decide +kernel
theorem dX12_trees_201 : decode cX12_trees 201 = .ok (.getfield 63, 3) := by decide +kernel
theorem dX12_trees_204 : decode cX12_trees 204 = .ok (.aload_n 0, 1) := by decide +kernel
theorem dX12_trees_205 : decode cX12_trees 205 = .ok (.getfield 79, 3) := by decide +kernel
theorem dX12_trees_208 : decode cX12_trees 208 = .ok (.iload 6, 2) := by decide +kernel
theorem dX12_trees_210 : decode cX12_trees 210 = .ok (.iaload, 1) := by decide +kernel
theorem dX12_trees_211 : decode cX12_trees 211 = .ok (.iaload, 1) := by decide +kernel
theorem dX12_trees_212 : decode cX12_trees 212 = .ok (.istore 5, 2) := by decide +kernel
theorem dX12_trees_214 : decode cX12_trees 214 = .ok (.iinc 6 1, 3) := by decide +kernel
theorem dX12_trees_217 : decode cX12_trees 217 = .ok (.goto (-43), 3) := by decide +kernel
theorem dX12_trees_220 : decode cX12_trees 220 = .ok (.iconst 1, 1) := by decide +kernel
theorem dX12_trees_221 : decode cX12_trees 221 = .ok (.iload 5, 2) := by decide +kernel
theorem dX12_trees_223 : decode cX12_trees 223 = .ok (.iadd, 1) := by decide +kernel
theorem dX12_trees_224 : decode cX12_trees 224 = .ok (.aload_n 0, 1) := by decide +kernel
theorem dX12_trees_225 : decode cX12_trees 225 = .ok (.getfield 63, 3) := by decide +kernel
theorem dX12_trees_228 : decode cX12_trees 228 = .ok (.iload_n 2, 1) := by decide +kernel
theorem dX12_trees_229 : decode cX12_trees 229 = .ok (.iaload, 1) := by decide +kernel
theorem dX12_trees_230 : decode cX12_trees 230 = .ok (.if_icmp .ge 21, 3) := by decide +kernel
theorem dX12_trees_233 : decode cX12_trees 233 = .ok (.aload_n 0, 1) := by decide +kernel
theorem dX12_trees_234 : decode cX12_trees 234 = .ok (.getfield 63, 3) := by decide +kernel
theorem dX12_trees_237 : decode cX12_trees 237 = .ok (.iload_n 2, 1) := by decide +kernel
theorem dX12_trees_238 : decode cX12_trees 238 = .ok (.iconst 1, 1) := by decide +kernel
theorem dX12_trees_239 : decode cX12_trees 239 = .ok (.iload 5, 2) := by decide +kernel
theorem dX12_trees_241 : decode cX12_trees 241 = .ok (.iadd, 1) := by decide +kernel
theorem dX12_trees_242 : decode cX12_trees 242 = .ok (.iastore, 1) := by decide +kernel
theorem dX12_trees_243 : decode cX12_trees 243 = .ok (.aload_n 0, 1) := by decide +kernel
theorem dX12_trees_244 : decode cX12_trees 244 = .ok (.getfield 66, 3) := by decide +kernel
theorem dX12_trees_247 : decode cX12_trees 247 = .ok (.iload_n 2, 1) := by decide +kernel
theorem dX12_trees_248 : decode cX12_trees 248 = .ok (.iload 4, 2) := by decide +kernel
theorem dX12_trees_250 : decode cX12_trees 250 = .ok (.iastore, 1) := by decide +kernel
theorem dX12_trees_251 : decode cX12_trees 251 = .ok (.iconst 0, 1) := by decide +kernel
theorem dX12_trees_252 : decode cX12_trees 252 = .ok (.istore 6, 2) := by decide +kernel
theorem dX12_trees_254 : decode cX12_trees 254 = .ok (.iload 6, 2) := by decide +kernel
theorem dX12_trees_256 : decode cX12_trees 256 = .ok (.bipush 11, 2) := by decide +kernel
theorem dX12_trees_258 : decode cX12_trees 258 = .ok (.if_icmp .ge 150, 3) := by decide +kernel
theorem dX12_trees_261 : decode cX12_trees 261 = .ok (.iload_n 3, 1) := by decide +kernel
theorem dX12_trees_262 : decode cX12_trees 262 = .ok (.istore 7, 2) := by decide +kernel
theorem dX12_trees_264 : decode cX12_trees 264 = .ok (.iconst 0, 1) := by decide +kernel
theorem dX12_trees_265 : decode cX12_trees 265 = .ok (.istore 8, 2) := by decide +kernel
theorem dX12_trees_267 : decode cX12_trees 267 = .ok (.iload 8, 2) := by decide +kernel
theorem dX12_trees_269 : decode cX12_trees 269 = .ok (.aload_n 0, 1) := by decide +kernel
theorem dX12_trees_270 : decode cX12_trees 270 = .ok (.getfield 238, 3) := by decide +kernel
theorem dX12_trees_273 : decode cX12_trees 273 = .ok (.if_icmp .ge 78, 3) := by decide +kernel
theorem dX12_trees_276 : decode cX12_trees 276 = .ok (.iload 6, 2) := by decide +kernel
theorem dX12_trees_278 : decode cX12_trees 278 = .ok (.iconst 1, 1) := by decide +kernel
theorem dX12_trees_279 : decode cX12_trees 279 = .ok (.if_icmp .ne 8, 3) := by decide +kernel
theorem dX12_trees_282 : decode cX12_trees 282 = .ok (.ldc 227, 2) := by decide +kernel
theorem dX12_trees_284 : decode cX12_trees 284 = .ok (.goto 33, 3) := by decide +kernel
theorem dX12_trees_287 : decode cX12_trees 287 = .ok (.aload_n 0, 1) := by decide +kernel
theorem dX12_trees_288 : decode cX12_trees 288 = .ok (.getfield 69, 3) := by decide +kernel
theorem dX12_trees_291 : decode cX12_trees 291 = .ok (.sipush 1024, 3) := by decide +kernel
theorem dX12_trees_294 : decode cX12_trees 294 = .ok (.iload 6, 2) := by decide +kernel
theorem dX12_trees_296 : decode cX12_trees 296 = .ok (.ifCond .ne 7, 3) := by decide +kernel
theorem dX12_trees_299 : decode cX12_trees 299 = .ok (.iconst 0, 1) := by decide +kernel
theorem dX12_trees_300 : decode cX12_trees 300 = .ok (.goto 7, 3) := by decide +kernel
theorem dX12_trees_303 : decode cX12_trees 303 = .ok (.iload 6, 2) := by decide +kernel
theorem dX12_trees_305 : decode cX12_trees 305 = .ok (.iconst 1, 1) := by decide +kernel
theorem dX12_trees_306 : decode cX12_trees 306 = .ok (.isub, 1) := by decide +kernel
theorem dX12_trees_307 : decode cX12_trees 307 = .ok (.imul, 1) := by decide +kernel
theorem dX12_trees_308 : decode cX12_trees 308 = .ok (.aload_n 0, 1) := by decide +kernel
theorem dX12_trees_309 : decode cX12_trees 309 = .ok (.getfield 79, 3) := by decide +kernel
theorem dX12_trees_312 : decode cX12_trees 312 = .ok (.iload 8, 2) := by decide +kernel
theorem dX12_trees_314 : decode cX12_trees 314 = .ok (.iaload, 1) := by decide +kernel
theorem dX12_trees_315 : decode cX12_trees 315 = .ok (.iadd, 1) := by decide +kernel
theorem dX12_trees_316 : decode cX12_trees 316 = .ok (.iaload, 1) := by decide +kernel
theorem dX12_trees_317 : decode cX12_trees 317 = .ok (.istore 9, 2) := by decide +kernel
theorem dX12_trees_319 : decode cX12_trees 319 = .ok (.iload 7, 2) := by decide +kernel
theorem dX12_trees_321 : decode cX12_trees 321 = .ok (.ldc 227, 2) := by decide +kernel
theorem dX12_trees_323 : decode cX12_trees 323 = .ok (.if_icmp .ge 10, 3) := by decide +kernel
theorem dX12_trees_326 : decode cX12_trees 326 = .ok (.iload 9, 2) := by decide +kernel
theorem dX12_trees_328 : decode cX12_trees 328 = .ok (.ldc 227, 2) := by decide +kernel
theorem dX12_trees_330 : decode cX12_trees 330 = .ok (.if_icmp .lt 8, 3) := by decide +kernel
theorem dX12_trees_333 : decode cX12_trees 333 = .ok (.ldc 227, 2) := by decide +kernel
theorem dX12_trees_335 : decode cX12_trees 335 = .ok (.goto 8, 3) := by decide +kernel
theorem dX12_trees_338 : decode cX12_trees 338 = .ok (.iload 7, 2) := by decide +kernel
theorem dX12_trees_340 : decode cX12_trees 340 = .ok (.iload 9, 2) := by decide +kernel
theorem dX12_trees_342 : decode cX12_trees 342 = .ok (.iadd, 1) := by decide +kernel
theorem dX12_trees_343 : decode cX12_trees 343 = .ok (.istore 7, 2) := by decide +kernel
theorem dX12_trees_345 : decode cX12_trees 345 = .ok (.iinc 8 1, 3) := by decide +kernel
theorem dX12_trees_348 : decode cX12_trees 348 = .ok (.goto (-81), 3) := by decide +kernel
theorem dX12_trees_351 : decode cX12_trees 351 = .ok (.iload 7, 2) := by decide +kernel
theorem dX12_trees_353 : decode cX12_trees 353 = .ok (.aload_n 0, 1) := by decide +kernel
theorem dX12_trees_354 : decode cX12_trees 354 = .ok (.getfield 69, 3) := by decide +kernel
theorem dX12_trees_357 : decode cX12_trees 357 = .ok (.sipush 1024, 3) := by decide +kernel
theorem dX12_trees_360 : decode cX12_trees 360 = .ok (.iload 6, 2) := by decide +kernel
theorem dX12_trees_362 : decode cX12_trees 362 = .ok (.imul, 1) := by decide +kernel
theorem dX12_trees_363 : decode cX12_trees 363 = .ok (.iload_n 2, 1) := by decide +kernel
theorem dX12_trees_364 : decode cX12_trees 364 = .ok (.iadd, 1) := by decide +kernel
theorem dX12_trees_365 : decode cX12_trees 365 = .ok (.iaload, 1) := by decide +kernel
theorem dX12_trees_366 : decode cX12_trees 366 = .ok (.if_icmp .lt 6, 3) := by decide +kernel
theorem dX12_trees_369 : decode cX12_trees 369 = .ok (.goto 33, 3) := by decide +kernel
theorem dX12_trees_372 : decode cX12_trees 372 = .ok (.aload_n 0, 1) := by decide +kernel
theorem dX12_trees_373 : decode cX12_trees 373 = .ok (.getfield 69, 3) := by decide +kernel
theorem dX12_trees_376 : decode cX12_trees 376 = .ok (.sipush 1024, 3) := by decide +kernel
theorem dX12_trees_379 : decode cX12_trees 379 = .ok (.iload 6, 2) := by decide +kernel
theorem dX12_trees_381 : decode cX12_trees 381 = .ok (.imul, 1) := by decide +kernel
theorem dX12_trees_382 : decode cX12_trees 382 = .ok (.iload_n 2, 1) := by decide +kernel
theorem dX12_trees_383 : decode cX12_trees 383 = .ok (.iadd, 1) := by decide +kernel
theorem dX12_trees_384 : decode cX12_trees 384 = .ok (.iload 7, 2) := by decide +kernel
theorem dX12_trees_386 : decode cX12_trees 386 = .ok (.iastore, 1) := by decide +kernel
theorem dX12_trees_387 : decode cX12_trees 387 = .ok (.aload_n 0, 1) := by decide +kernel
theorem dX12_trees_388 : decode cX12_trees 388 = .ok (.getfield 72, 3) := by decide +kernel
theorem dX12_trees_391 : decode cX12_trees 391 = .ok (.sipush 1024, 3) := by decide +kernel
theorem dX12_trees_394 : decode cX12_trees 394 = .ok (.iload 6, 2) := by decide +kernel
theorem dX12_trees_396 : decode cX12_trees 396 = .ok (.imul, 1) := by decide +kernel
theorem dX12_trees_397 : decode cX12_trees 397 = .ok (.iload_n 2, 1) := by decide +kernel
theorem dX12_trees_398 : decode cX12_trees 398 = .ok (.iadd, 1) := by decide +kernel
theorem dX12_trees_399 : decode cX12_trees 399 = .ok (.iload 4, 2) := by decide +kernel
theorem dX12_trees_401 : decode cX12_trees 401 = .ok (.iastore, 1) := by decide +kernel
theorem dX12_trees_402 : decode cX12_trees 402 = .ok (.iinc 6 1, 3) := by decide +kernel
theorem dX12_trees_405 : decode cX12_trees 405 = .ok (.goto (-151), 3) := by decide +kernel
theorem dX12_trees_408 : decode cX12_trees 408 = .ok (.iinc 4 1, 3) := by decide +kernel
theorem dX12_trees_411 : decode cX12_trees 411 = .ok (.goto (-294), 3) := by decide +kernel
theorem dX12_trees_414 : decode cX12_trees 414 = .ok (.iinc 2 1, 3) := by decide +kernel
theorem dX12_trees_417 : decode cX12_trees 417 = .ok (.goto (-357), 3) := by decide +kernel
theorem dX12_trees_420 : decode cX12_trees 420 = .ok (.return_, 1) := by decide +kernel
theorem dX12_row_0 : decode cX12_row 0 = .ok (.iload_n 0, 1) := by decide +kernel
theorem dX12_row_1 : decode cX12_row 1 = .ok (.bipush 10, 2) := by decide +kernel
theorem dX12_row_3 : decode cX12_row 3 = .ok (.if_icmp .le 7, 3) := by decide +kernel
theorem dX12_row_6 : decode cX12_row 6 = .ok (.iconst 0, 1) := by decide +kernel
theorem dX12_row_7 : decode cX12_row 7 = .ok (.goto 4, 3) := by decide +kernel
theorem dX12_row_10 : decode cX12_row 10 = .ok (.iload_n 0, 1) := by decide +kernel
theorem dX12_row_11 : decode cX12_row 11 = .ok (.ireturn, 1) := by decide +kernel
theorem dX12_least_0 : decode cX12_least 0 = .ok (.aload_n 0, 1) := by decide +kernel
theorem dX12_least_1 : decode cX12_least 1 = .ok (.iconst 0, 1) := by decide +kernel
theorem dX12_least_2 : decode cX12_least 2 = .ok (.putfield 139, 3) := by decide +kernel
theorem dX12_least_5 : decode cX12_least 5 = .ok (.aload_n 0, 1) := by decide +kernel
theorem dX12_least_6 : decode cX12_least 6 = .ok (.iload_n 1, 1) := by decide +kernel
theorem dX12_least_7 : decode cX12_least 7 = .ok (.invokevirtual 248, 3) := by decide +kernel
theorem dX12_least_10 : decode cX12_least 10 = .ok (.istore_n 2, 1) := by decide +kernel
theorem dX12_least_11 : decode cX12_least 11 = .ok (.iload_n 2, 1) := by decide +kernel
theorem dX12_least_12 : decode cX12_least 12 = .ok (.ifCond .eq 5, 3) := by decide +kernel
theorem dX12_least_15 : decode cX12_least 15 = .ok (.iload_n 2, 1) := by decide +kernel
theorem dX12_least_16 : decode cX12_least 16 = .ok (.ireturn, 1) := by decide +kernel
theorem dX12_least_17 : decode cX12_least 17 = .ok (.aload_n 0, 1) := by decide +kernel
theorem dX12_least_18 : decode cX12_least 18 = .ok (.iload_n 1, 1) := by decide +kernel
theorem dX12_least_19 : decode cX12_least 19 = .ok (.invokevirtual 251, 3) := by decide +kernel
theorem dX12_least_22 : decode cX12_least 22 = .ok (.aload_n 0, 1) := by decide +kernel
theorem dX12_least_23 : decode cX12_least 23 = .ok (.getfield 63, 3) := by decide +kernel
theorem dX12_least_26 : decode cX12_least 26 = .ok (.iconst 1, 1) := by decide +kernel
theorem dX12_least_27 : decode cX12_least 27 = .ok (.aload_n 0, 1) := by decide +kernel
theorem dX12_least_28 : decode cX12_least 28 = .ok (.getfield 164, 3) := by decide +kernel
theorem dX12_least_31 : decode cX12_least 31 = .ok (.ishl, 1) := by decide +kernel
theorem dX12_least_32 : decode cX12_least 32 = .ok (.iconst 1, 1) := by decide +kernel
theorem dX12_least_33 : decode cX12_least 33 = .ok (.isub, 1) := by decide +kernel
theorem dX12_least_34 : decode cX12_least 34 = .ok (.iaload, 1) := by decide +kernel
theorem dX12_least_35 : decode cX12_least 35 = .ok (.ireturn, 1) := by decide +kernel
theorem dX12_asked_0 : decode cX12_asked 0 = .ok (.iload_n 1, 1) := by decide +kernel
theorem dX12_asked_1 : decode cX12_asked 1 = .ok (.iconst 0, 1) := by decide +kernel
theorem dX12_asked_2 : decode cX12_asked 2 = .ok (.iconst 1, 1) := by decide +kernel
theorem dX12_asked_3 : decode cX12_asked 3 = .ok (.invokestatic 142, 3) := by decide +kernel
theorem dX12_asked_6 : decode cX12_asked 6 = .ok (.ifCond .eq 21, 3) := by decide +kernel
theorem dX12_asked_9 : decode cX12_asked 9 = .ok (.iload_n 2, 1) := by decide +kernel
theorem dX12_asked_10 : decode cX12_asked 10 = .ok (.iconst 0, 1) := by decide +kernel
theorem dX12_asked_11 : decode cX12_asked 11 = .ok (.bipush 20, 2) := by decide +kernel
theorem dX12_asked_13 : decode cX12_asked 13 = .ok (.invokestatic 142, 3) := by decide +kernel
theorem dX12_asked_16 : decode cX12_asked 16 = .ok (.ifCond .eq 11, 3) := by decide +kernel
theorem dX12_asked_19 : decode cX12_asked 19 = .ok (.aload_n 0, 1) := by decide +kernel
theorem dX12_asked_20 : decode cX12_asked 20 = .ok (.iload_n 1, 1) := by decide +kernel
theorem dX12_asked_21 : decode cX12_asked 21 = .ok (.invokevirtual 248, 3) := by decide +kernel
theorem dX12_asked_24 : decode cX12_asked 24 = .ok (.goto 4, 3) := by decide +kernel
theorem dX12_asked_27 : decode cX12_asked 27 = .ok (.iconst (-1), 1) := by decide +kernel
theorem dX12_asked_28 : decode cX12_asked 28 = .ok (.ireturn, 1) := by decide +kernel
theorem dX12_sum_0 : decode cX12_sum 0 = .ok (.aload_n 0, 1) := by decide +kernel
theorem dX12_sum_1 : decode cX12_sum 1 = .ok (.iconst 0, 1) := by decide +kernel
theorem dX12_sum_2 : decode cX12_sum 2 = .ok (.putfield 139, 3) := by decide +kernel
theorem dX12_sum_5 : decode cX12_sum 5 = .ok (.aload_n 0, 1) := by decide +kernel
theorem dX12_sum_6 : decode cX12_sum 6 = .ok (.iload_n 1, 1) := by decide +kernel
theorem dX12_sum_7 : decode cX12_sum 7 = .ok (.iload_n 2, 1) := by decide +kernel
theorem dX12_sum_8 : decode cX12_sum 8 = .ok (.invokevirtual 254, 3) := by decide +kernel
theorem dX12_sum_11 : decode cX12_sum 11 = .ok (.istore_n 3, 1) := by decide +kernel
theorem dX12_sum_12 : decode cX12_sum 12 = .ok (.iload_n 3, 1) := by decide +kernel
theorem dX12_sum_13 : decode cX12_sum 13 = .ok (.ifCond .eq 5, 3) := by decide +kernel
theorem dX12_sum_16 : decode cX12_sum 16 = .ok (.iload_n 3, 1) := by decide +kernel
theorem dX12_sum_17 : decode cX12_sum 17 = .ok (.ireturn, 1) := by decide +kernel
theorem dX12_sum_18 : decode cX12_sum 18 = .ok (.aload_n 0, 1) := by decide +kernel
theorem dX12_sum_19 : decode cX12_sum 19 = .ok (.iload_n 1, 1) := by decide +kernel
theorem dX12_sum_20 : decode cX12_sum 20 = .ok (.invokevirtual 251, 3) := by decide +kernel
theorem dX12_sum_23 : decode cX12_sum 23 = .ok (.aload_n 0, 1) := by decide +kernel
theorem dX12_sum_24 : decode cX12_sum 24 = .ok (.getfield 69, 3) := by decide +kernel
theorem dX12_sum_27 : decode cX12_sum 27 = .ok (.sipush 1024, 3) := by decide +kernel
theorem dX12_sum_30 : decode cX12_sum 30 = .ok (.iload_n 2, 1) := by decide +kernel
theorem dX12_sum_31 : decode cX12_sum 31 = .ok (.invokestatic 257, 3) := by decide +kernel
theorem dX12_sum_34 : decode cX12_sum 34 = .ok (.imul, 1) := by decide +kernel
theorem dX12_sum_35 : decode cX12_sum 35 = .ok (.iconst 1, 1) := by decide +kernel
theorem dX12_sum_36 : decode cX12_sum 36 = .ok (.aload_n 0, 1) := by decide +kernel
theorem dX12_sum_37 : decode cX12_sum 37 = .ok (.getfield 164, 3) := by decide +kernel
theorem dX12_sum_40 : decode cX12_sum 40 = .ok (.ishl, 1) := by decide +kernel
theorem dX12_sum_41 : decode cX12_sum 41 = .ok (.iadd, 1) := by decide +kernel
theorem dX12_sum_42 : decode cX12_sum 42 = .ok (.iconst 1, 1) := by decide +kernel
theorem dX12_sum_43 : decode cX12_sum 43 = .ok (.isub, 1) := by decide +kernel
theorem dX12_sum_44 : decode cX12_sum 44 = .ok (.iaload, 1) := by decide +kernel
theorem dX12_sum_45 : decode cX12_sum 45 = .ok (.istore 4, 2) := by decide +kernel
theorem dX12_sum_47 : decode cX12_sum 47 = .ok (.iload 4, 2) := by decide +kernel
theorem dX12_sum_49 : decode cX12_sum 49 = .ok (.ldc 227, 2) := by decide +kernel
theorem dX12_sum_51 : decode cX12_sum 51 = .ok (.if_icmp .lt 8, 3) := by decide +kernel
theorem dX12_sum_54 : decode cX12_sum 54 = .ok (.bipush (-7), 2) := by decide +kernel
theorem dX12_sum_56 : decode cX12_sum 56 = .ok (.goto 5, 3) := by decide +kernel
theorem dX12_sum_59 : decode cX12_sum 59 = .ok (.iload 4, 2) := by decide +kernel
theorem dX12_sum_61 : decode cX12_sum 61 = .ok (.ireturn, 1) := by decide +kernel
theorem dX12_best_0 : decode cX12_best 0 = .ok (.aload_n 0, 1) := by decide +kernel
theorem dX12_best_1 : decode cX12_best 1 = .ok (.iconst 0, 1) := by decide +kernel
theorem dX12_best_2 : decode cX12_best 2 = .ok (.putfield 139, 3) := by decide +kernel
theorem dX12_best_5 : decode cX12_best 5 = .ok (.iload_n 1, 1) := by decide +kernel
theorem dX12_best_6 : decode cX12_best 6 = .ok (.iconst 0, 1) := by decide +kernel
theorem dX12_best_7 : decode cX12_best 7 = .ok (.iconst 1, 1) := by decide +kernel
theorem dX12_best_8 : decode cX12_best 8 = .ok (.invokestatic 142, 3) := by decide +kernel
theorem dX12_best_11 : decode cX12_best 11 = .ok (.ifCond .ne 5, 3) := by decide +kernel
theorem dX12_best_14 : decode cX12_best 14 = .ok (.iconst (-1), 1) := by decide +kernel
theorem dX12_best_15 : decode cX12_best 15 = .ok (.ireturn, 1) := by decide +kernel
theorem dX12_best_16 : decode cX12_best 16 = .ok (.aload_n 0, 1) := by decide +kernel
theorem dX12_best_17 : decode cX12_best 17 = .ok (.iload_n 2, 1) := by decide +kernel
theorem dX12_best_18 : decode cX12_best 18 = .ok (.iload_n 3, 1) := by decide +kernel
theorem dX12_best_19 : decode cX12_best 19 = .ok (.invokevirtual 254, 3) := by decide +kernel
theorem dX12_best_22 : decode cX12_best 22 = .ok (.istore 4, 2) := by decide +kernel
theorem dX12_best_24 : decode cX12_best 24 = .ok (.iload 4, 2) := by decide +kernel
theorem dX12_best_26 : decode cX12_best 26 = .ok (.ifCond .eq 6, 3) := by decide +kernel
theorem dX12_best_29 : decode cX12_best 29 = .ok (.iload 4, 2) := by decide +kernel
theorem dX12_best_31 : decode cX12_best 31 = .ok (.ireturn, 1) := by decide +kernel
theorem dX12_best_32 : decode cX12_best 32 = .ok (.aload_n 0, 1) := by decide +kernel
theorem dX12_best_33 : decode cX12_best 33 = .ok (.iload_n 2, 1) := by decide +kernel
theorem dX12_best_34 : decode cX12_best 34 = .ok (.invokevirtual 251, 3) := by decide +kernel
theorem dX12_best_37 : decode cX12_best 37 = .ok (.iconst 1, 1) := by decide +kernel
theorem dX12_best_38 : decode cX12_best 38 = .ok (.aload_n 0, 1) := by decide +kernel
theorem dX12_best_39 : decode cX12_best 39 = .ok (.getfield 164, 3) := by decide +kernel
theorem dX12_best_42 : decode cX12_best 42 = .ok (.ishl, 1) := by decide +kernel
theorem dX12_best_43 : decode cX12_best 43 = .ok (.iconst 1, 1) := by decide +kernel
theorem dX12_best_44 : decode cX12_best 44 = .ok (.isub, 1) := by decide +kernel
theorem dX12_best_45 : decode cX12_best 45 = .ok (.istore 5, 2) := by decide +kernel
theorem dX12_best_47 : decode cX12_best 47 = .ok (.iload_n 1, 1) := by decide +kernel
theorem dX12_best_48 : decode cX12_best 48 = .ok (.ifCond .ne 11, 3) := by decide +kernel
theorem dX12_best_51 : decode cX12_best 51 = .ok (.aload_n 0, 1) := by decide +kernel
theorem dX12_best_52 : decode cX12_best 52 = .ok (.getfield 66, 3) := by decide +kernel
theorem dX12_best_55 : decode cX12_best 55 = .ok (.iload 5, 2) := by decide +kernel
theorem dX12_best_57 : decode cX12_best 57 = .ok (.iaload, 1) := by decide +kernel
theorem dX12_best_58 : decode cX12_best 58 = .ok (.ireturn, 1) := by decide +kernel
theorem dX12_best_59 : decode cX12_best 59 = .ok (.aload_n 0, 1) := by decide +kernel
theorem dX12_best_60 : decode cX12_best 60 = .ok (.getfield 69, 3) := by decide +kernel
theorem dX12_best_63 : decode cX12_best 63 = .ok (.sipush 1024, 3) := by decide +kernel
theorem dX12_best_66 : decode cX12_best 66 = .ok (.iload_n 3, 1) := by decide +kernel
theorem dX12_best_67 : decode cX12_best 67 = .ok (.invokestatic 257, 3) := by decide +kernel
theorem dX12_best_70 : decode cX12_best 70 = .ok (.imul, 1) := by decide +kernel
theorem dX12_best_71 : decode cX12_best 71 = .ok (.iload 5, 2) := by decide +kernel
theorem dX12_best_73 : decode cX12_best 73 = .ok (.iadd, 1) := by decide +kernel
theorem dX12_best_74 : decode cX12_best 74 = .ok (.iaload, 1) := by decide +kernel
theorem dX12_best_75 : decode cX12_best 75 = .ok (.ldc 227, 2) := by decide +kernel
theorem dX12_best_77 : decode cX12_best 77 = .ok (.if_icmp .lt 8, 3) := by decide +kernel
theorem dX12_best_80 : decode cX12_best 80 = .ok (.bipush (-7), 2) := by decide +kernel
theorem dX12_best_82 : decode cX12_best 82 = .ok (.goto 19, 3) := by decide +kernel
theorem dX12_best_85 : decode cX12_best 85 = .ok (.aload_n 0, 1) := by decide +kernel
theorem dX12_best_86 : decode cX12_best 86 = .ok (.getfield 72, 3) := by decide +kernel
theorem dX12_best_89 : decode cX12_best 89 = .ok (.sipush 1024, 3) := by decide +kernel
theorem dX12_best_92 : decode cX12_best 92 = .ok (.iload_n 3, 1) := by decide +kernel
theorem dX12_best_93 : decode cX12_best 93 = .ok (.invokestatic 257, 3) := by decide +kernel
theorem dX12_best_96 : decode cX12_best 96 = .ok (.imul, 1) := by decide +kernel
theorem dX12_best_97 : decode cX12_best 97 = .ok (.iload 5, 2) := by decide +kernel
theorem dX12_best_99 : decode cX12_best 99 = .ok (.iadd, 1) := by decide +kernel
theorem dX12_best_100 : decode cX12_best 100 = .ok (.iaload, 1) := by decide +kernel
theorem dX12_best_101 : decode cX12_best 101 = .ok (.ireturn, 1) := by decide +kernel
theorem dX12_tree_0 : decode cX12_tree 0 = .ok (.aload_n 0, 1) := by decide +kernel
theorem dX12_tree_1 : decode cX12_tree 1 = .ok (.iconst 0, 1) := by decide +kernel
theorem dX12_tree_2 : decode cX12_tree 2 = .ok (.putfield 139, 3) := by decide +kernel
theorem dX12_tree_5 : decode cX12_tree 5 = .ok (.aload_n 0, 1) := by decide +kernel
theorem dX12_tree_6 : decode cX12_tree 6 = .ok (.iload_n 1, 1) := by decide +kernel
theorem dX12_tree_7 : decode cX12_tree 7 = .ok (.iload_n 2, 1) := by decide +kernel
theorem dX12_tree_8 : decode cX12_tree 8 = .ok (.invokevirtual 254, 3) := by decide +kernel
theorem dX12_tree_11 : decode cX12_tree 11 = .ok (.istore_n 3, 1) := by decide +kernel
theorem dX12_tree_12 : decode cX12_tree 12 = .ok (.iload_n 3, 1) := by decide +kernel
theorem dX12_tree_13 : decode cX12_tree 13 = .ok (.ifCond .eq 5, 3) := by decide +kernel
theorem dX12_tree_16 : decode cX12_tree 16 = .ok (.iload_n 3, 1) := by decide +kernel
theorem dX12_tree_17 : decode cX12_tree 17 = .ok (.ireturn, 1) := by decide +kernel
theorem dX12_tree_18 : decode cX12_tree 18 = .ok (.aload_n 0, 1) := by decide +kernel
theorem dX12_tree_19 : decode cX12_tree 19 = .ok (.iload_n 1, 1) := by decide +kernel
theorem dX12_tree_20 : decode cX12_tree 20 = .ok (.invokevirtual 251, 3) := by decide +kernel
theorem dX12_tree_23 : decode cX12_tree 23 = .ok (.iconst 1, 1) := by decide +kernel
theorem dX12_tree_24 : decode cX12_tree 24 = .ok (.aload_n 0, 1) := by decide +kernel
theorem dX12_tree_25 : decode cX12_tree 25 = .ok (.getfield 164, 3) := by decide +kernel
theorem dX12_tree_28 : decode cX12_tree 28 = .ok (.ishl, 1) := by decide +kernel
theorem dX12_tree_29 : decode cX12_tree 29 = .ok (.iconst 1, 1) := by decide +kernel
theorem dX12_tree_30 : decode cX12_tree 30 = .ok (.isub, 1) := by decide +kernel
theorem dX12_tree_31 : decode cX12_tree 31 = .ok (.istore 4, 2) := by decide +kernel
theorem dX12_tree_33 : decode cX12_tree 33 = .ok (.iload_n 2, 1) := by decide +kernel
theorem dX12_tree_34 : decode cX12_tree 34 = .ok (.invokestatic 257, 3) := by decide +kernel
theorem dX12_tree_37 : decode cX12_tree 37 = .ok (.istore 5, 2) := by decide +kernel
theorem dX12_tree_39 : decode cX12_tree 39 = .ok (.aload_n 0, 1) := by decide +kernel
theorem dX12_tree_40 : decode cX12_tree 40 = .ok (.getfield 69, 3) := by decide +kernel
theorem dX12_tree_43 : decode cX12_tree 43 = .ok (.sipush 1024, 3) := by decide +kernel
theorem dX12_tree_46 : decode cX12_tree 46 = .ok (.iload 5, 2) := by decide +kernel
theorem dX12_tree_48 : decode cX12_tree 48 = .ok (.imul, 1) := by decide +kernel
theorem dX12_tree_49 : decode cX12_tree 49 = .ok (.iload 4, 2) := by decide +kernel
theorem dX12_tree_51 : decode cX12_tree 51 = .ok (.iadd, 1) := by decide +kernel
theorem dX12_tree_52 : decode cX12_tree 52 = .ok (.iaload, 1) := by decide +kernel
theorem dX12_tree_53 : decode cX12_tree 53 = .ok (.ldc 227, 2) := by decide +kernel
theorem dX12_tree_55 : decode cX12_tree 55 = .ok (.if_icmp .lt 6, 3) := by decide +kernel
theorem dX12_tree_58 : decode cX12_tree 58 = .ok (.bipush (-7), 2) := by decide +kernel
theorem dX12_tree_60 : decode cX12_tree 60 = .ok (.ireturn, 1) := by decide +kernel
theorem dX12_tree_61 : decode cX12_tree 61 = .ok (.aload_n 0, 1) := by decide +kernel
theorem dX12_tree_62 : decode cX12_tree 62 = .ok (.iconst 0, 1) := by decide +kernel
theorem dX12_tree_63 : decode cX12_tree 63 = .ok (.putfield 186, 3) := by decide +kernel
theorem dX12_tree_66 : decode cX12_tree 66 = .ok (.iconst 1, 1) := by decide +kernel
theorem dX12_tree_67 : decode cX12_tree 67 = .ok (.istore 6, 2) := by decide +kernel
theorem dX12_tree_69 : decode cX12_tree 69 = .ok (.aload_n 0, 1) := by decide +kernel
theorem dX12_tree_70 : decode cX12_tree 70 = .ok (.getfield 100, 3) := by decide +kernel
theorem dX12_tree_73 : decode cX12_tree 73 = .ok (.iconst 0, 1) := by decide +kernel
theorem dX12_tree_74 : decode cX12_tree 74 = .ok (.iload 4, 2) := by decide +kernel
theorem dX12_tree_76 : decode cX12_tree 76 = .ok (.iastore, 1) := by decide +kernel
theorem dX12_tree_77 : decode cX12_tree 77 = .ok (.aload_n 0, 1) := by decide +kernel
theorem dX12_tree_78 : decode cX12_tree 78 = .ok (.getfield 103, 3) := by decide +kernel
theorem dX12_tree_81 : decode cX12_tree 81 = .ok (.iconst 0, 1) := by decide +kernel
theorem dX12_tree_82 : decode cX12_tree 82 = .ok (.iconst (-1), 1) := by decide +kernel
theorem dX12_tree_83 : decode cX12_tree 83 = .ok (.iastore, 1) := by decide +kernel
theorem dX12_tree_84 : decode cX12_tree 84 = .ok (.aload_n 0, 1) := by decide +kernel
theorem dX12_tree_85 : decode cX12_tree 85 = .ok (.getfield 106, 3) := by decide +kernel
theorem dX12_tree_88 : decode cX12_tree 88 = .ok (.iconst 0, 1) := by decide +kernel
theorem dX12_tree_89 : decode cX12_tree 89 = .ok (.iconst (-1), 1) := by decide +kernel
theorem dX12_tree_90 : decode cX12_tree 90 = .ok (.iastore, 1) := by decide +kernel
theorem dX12_tree_91 : decode cX12_tree 91 = .ok (.aload_n 0, 1) := by decide +kernel
theorem dX12_tree_92 : decode cX12_tree 92 = .ok (.getfield 109, 3) := by decide +kernel
theorem dX12_tree_95 : decode cX12_tree 95 = .ok (.iconst 0, 1) := by decide +kernel
theorem dX12_tree_96 : decode cX12_tree 96 = .ok (.iconst 1, 1) := by decide +kernel
theorem dX12_tree_97 : decode cX12_tree 97 = .ok (.iastore, 1) := by decide +kernel
theorem dX12_tree_98 : decode cX12_tree 98 = .ok (.iload 6, 2) := by decide +kernel
theorem dX12_tree_100 : decode cX12_tree 100 = .ok (.ifCond .le 241, 3) := by decide +kernel
theorem dX12_tree_103 : decode cX12_tree 103 = .ok (.iinc 6 (-1), 3) := by decide +kernel
theorem dX12_tree_106 : decode cX12_tree 106 = .ok (.aload_n 0, 1) := by decide +kernel
theorem dX12_tree_107 : decode cX12_tree 107 = .ok (.getfield 100, 3) := by decide +kernel
theorem dX12_tree_110 : decode cX12_tree 110 = .ok (.iload 6, 2) := by decide +kernel
theorem dX12_tree_112 : decode cX12_tree 112 = .ok (.iaload, 1) := by decide +kernel
theorem dX12_tree_113 : decode cX12_tree 113 = .ok (.istore 7, 2) := by decide +kernel
theorem dX12_tree_115 : decode cX12_tree 115 = .ok (.aload_n 0, 1) := by decide +kernel
theorem dX12_tree_116 : decode cX12_tree 116 = .ok (.getfield 109, 3) := by decide +kernel
theorem dX12_tree_119 : decode cX12_tree 119 = .ok (.iload 6, 2) := by decide +kernel
theorem dX12_tree_121 : decode cX12_tree 121 = .ok (.iaload, 1) := by decide +kernel
theorem dX12_tree_122 : decode cX12_tree 122 = .ok (.istore 8, 2) := by decide +kernel
theorem dX12_tree_124 : decode cX12_tree 124 = .ok (.aload_n 0, 1) := by decide +kernel
theorem dX12_tree_125 : decode cX12_tree 125 = .ok (.getfield 72, 3) := by decide +kernel
theorem dX12_tree_128 : decode cX12_tree 128 = .ok (.sipush 1024, 3) := by decide +kernel
theorem dX12_tree_131 : decode cX12_tree 131 = .ok (.iload 5, 2) := by decide +kernel
theorem dX12_tree_133 : decode cX12_tree 133 = .ok (.ifCond .ne 7, 3) := by decide +kernel
theorem dX12_tree_136 : decode cX12_tree 136 = .ok (.iconst 0, 1) := by decide +kernel
theorem dX12_tree_137 : decode cX12_tree 137 = .ok (.goto 10, 3) := by decide +kernel
theorem dX12_tree_140 : decode cX12_tree 140 = .ok (.iload 5, 2) := by decide +kernel
theorem dX12_tree_142 : decode cX12_tree 142 = .ok (.iload 8, 2) := by decide +kernel
theorem dX12_tree_144 : decode cX12_tree 144 = .ok (.isub, 1) := by decide +kernel
theorem dX12_tree_145 : decode cX12_tree 145 = .ok (.iconst 1, 1) := by decide +kernel
theorem dX12_tree_146 : decode cX12_tree 146 = .ok (.iadd, 1) := by decide +kernel
theorem dX12_tree_147 : decode cX12_tree 147 = .ok (.imul, 1) := by decide +kernel
theorem dX12_tree_148 : decode cX12_tree 148 = .ok (.iload 7, 2) := by decide +kernel
theorem dX12_tree_150 : decode cX12_tree 150 = .ok (.iadd, 1) := by decide +kernel
theorem dX12_tree_151 : decode cX12_tree 151 = .ok (.iaload, 1) := by decide +kernel
theorem dX12_tree_152 : decode cX12_tree 152 = .ok (.istore 9, 2) := by decide +kernel
theorem dX12_tree_154 : decode cX12_tree 154 = .ok (.aload_n 0, 1) := by decide +kernel
theorem dX12_tree_155 : decode cX12_tree 155 = .ok (.getfield 85, 3) := by decide +kernel
theorem dX12_tree_158 : decode cX12_tree 158 = .ok (.aload_n 0, 1) := by decide +kernel
theorem dX12_tree_159 : decode cX12_tree 159 = .ok (.getfield 186, 3) := by decide +kernel
theorem dX12_tree_162 : decode cX12_tree 162 = .ok (.iload 9, 2) := by decide +kernel
theorem dX12_tree_164 : decode cX12_tree 164 = .ok (.iastore, 1) := by decide +kernel
theorem dX12_tree_165 : decode cX12_tree 165 = .ok (.aload_n 0, 1) := by decide +kernel
theorem dX12_tree_166 : decode cX12_tree 166 = .ok (.getfield 88, 3) := by decide +kernel
theorem dX12_tree_169 : decode cX12_tree 169 = .ok (.aload_n 0, 1) := by decide +kernel
theorem dX12_tree_170 : decode cX12_tree 170 = .ok (.getfield 186, 3) := by decide +kernel
theorem dX12_tree_173 : decode cX12_tree 173 = .ok (.aload_n 0, 1) := by decide +kernel
theorem dX12_tree_174 : decode cX12_tree 174 = .ok (.getfield 103, 3) := by decide +kernel
theorem dX12_tree_177 : decode cX12_tree 177 = .ok (.iload 6, 2) := by decide +kernel
theorem dX12_tree_179 : decode cX12_tree 179 = .ok (.iaload, 1) := by decide +kernel
theorem dX12_tree_180 : decode cX12_tree 180 = .ok (.iastore, 1) := by decide +kernel
theorem dX12_tree_181 : decode cX12_tree 181 = .ok (.aload_n 0, 1) := by decide +kernel
theorem dX12_tree_182 : decode cX12_tree 182 = .ok (.getfield 91, 3) := by decide +kernel
theorem dX12_tree_185 : decode cX12_tree 185 = .ok (.aload_n 0, 1) := by decide +kernel
theorem dX12_tree_186 : decode cX12_tree 186 = .ok (.getfield 186, 3) := by decide +kernel
theorem dX12_tree_189 : decode cX12_tree 189 = .ok (.aload_n 0, 1) := by decide +kernel
theorem dX12_tree_190 : decode cX12_tree 190 = .ok (.getfield 106, 3) := by decide +kernel
theorem dX12_tree_193 : decode cX12_tree 193 = .ok (.iload 6, 2) := by decide +kernel
theorem dX12_tree_195 : decode cX12_tree 195 = .ok (.iaload, 1) := by decide +kernel
theorem dX12_tree_196 : decode cX12_tree 196 = .ok (.iastore, 1) := by decide +kernel
theorem dX12_tree_197 : decode cX12_tree 197 = .ok (.aload_n 0, 1) := by decide +kernel
theorem dX12_tree_198 : decode cX12_tree 198 = .ok (.getfield 94, 3) := by decide +kernel
theorem dX12_tree_201 : decode cX12_tree 201 = .ok (.aload_n 0, 1) := by decide +kernel
theorem dX12_tree_202 : decode cX12_tree 202 = .ok (.getfield 186, 3) := by decide +kernel
theorem dX12_tree_205 : decode cX12_tree 205 = .ok (.iload 7, 2) := by decide +kernel
theorem dX12_tree_207 : decode cX12_tree 207 = .ok (.invokestatic 177, 3) := by decide +kernel
theorem dX12_tree_210 : decode cX12_tree 210 = .ok (.iastore, 1) := by decide +kernel
theorem dX12_tree_211 : decode cX12_tree 211 = .ok (.aload_n 0, 1) := by decide +kernel
theorem dX12_tree_212 : decode cX12_tree 212 = .ok (.getfield 97, 3) := by decide +kernel
theorem dX12_tree_215 : decode cX12_tree 215 = .ok (.aload_n 0, 1) := by decide +kernel
theorem dX12_tree_216 : decode cX12_tree 216 = .ok (.getfield 186, 3) := by decide +kernel
theorem dX12_tree_219 : decode cX12_tree 219 = .ok (.iload 8, 2) := by decide +kernel
theorem dX12_tree_221 : decode cX12_tree 221 = .ok (.iastore, 1) := by decide +kernel
theorem dX12_tree_222 : decode cX12_tree 222 = .ok (.aload_n 0, 1) := by decide +kernel
theorem dX12_tree_223 : decode cX12_tree 223 = .ok (.iload 9, 2) := by decide +kernel
theorem dX12_tree_225 : decode cX12_tree 225 = .ok (.iload 7, 2) := by decide +kernel
theorem dX12_tree_227 : decode cX12_tree 227 = .ok (.invokevirtual 245, 3) := by decide +kernel
theorem dX12_tree_230 : decode cX12_tree 230 = .ok (.istore 10, 2) := by decide +kernel
theorem dX12_tree_232 : decode cX12_tree 232 = .ok (.bipush 59, 2) := by decide +kernel
theorem dX12_tree_234 : decode cX12_tree 234 = .ok (.istore 11, 2) := by decide +kernel
theorem dX12_tree_236 : decode cX12_tree 236 = .ok (.iload 11, 2) := by decide +kernel
theorem dX12_tree_238 : decode cX12_tree 238 = .ok (.ifCond .lt 90, 3) := by decide +kernel
theorem dX12_tree_241 : decode cX12_tree 241 = .ok (.iconst 0, 1) := by decide +kernel
theorem dX12_tree_242 : decode cX12_tree 242 = .ok (.istore 12, 2) := by decide +kernel
theorem dX12_tree_244 : decode cX12_tree 244 = .ok (.iload 12, 2) := by decide +kernel
theorem dX12_tree_246 : decode cX12_tree 246 = .ok (.aload_n 0, 1) := by decide +kernel
theorem dX12_tree_247 : decode cX12_tree 247 = .ok (.getfield 238, 3) := by decide +kernel
theorem dX12_tree_250 : decode cX12_tree 250 = .ok (.if_icmp .ge 72, 3) := by decide +kernel
theorem dX12_tree_253 : decode cX12_tree 253 = .ok (.aload_n 0, 1) := by decide +kernel
theorem dX12_tree_254 : decode cX12_tree 254 = .ok (.getfield 82, 3) := by decide +kernel
theorem dX12_tree_257 : decode cX12_tree 257 = .ok (.iload 12, 2) := by decide +kernel
theorem dX12_tree_259 : decode cX12_tree 259 = .ok (.iaload, 1) := by decide +kernel
theorem dX12_tree_260 : decode cX12_tree 260 = .ok (.iload 11, 2) := by decide +kernel
theorem dX12_tree_262 : decode cX12_tree 262 = .ok (.if_icmp .eq 6, 3) := by decide +kernel
theorem dX12_tree_265 : decode cX12_tree 265 = .ok (.goto 51, 3) := by decide +kernel
theorem dX12_tree_268 : decode cX12_tree 268 = .ok (.aload_n 0, 1) := by decide +kernel
theorem dX12_tree_269 : decode cX12_tree 269 = .ok (.getfield 100, 3) := by decide +kernel
theorem dX12_tree_272 : decode cX12_tree 272 = .ok (.iload 6, 2) := by decide +kernel
theorem dX12_tree_274 : decode cX12_tree 274 = .ok (.aload_n 0, 1) := by decide +kernel
theorem dX12_tree_275 : decode cX12_tree 275 = .ok (.getfield 79, 3) := by decide +kernel
theorem dX12_tree_278 : decode cX12_tree 278 = .ok (.iload 12, 2) := by decide +kernel
theorem dX12_tree_280 : decode cX12_tree 280 = .ok (.iaload, 1) := by decide +kernel
theorem dX12_tree_281 : decode cX12_tree 281 = .ok (.iastore, 1) := by decide +kernel
theorem dX12_tree_282 : decode cX12_tree 282 = .ok (.aload_n 0, 1) := by decide +kernel
theorem dX12_tree_283 : decode cX12_tree 283 = .ok (.getfield 103, 3) := by decide +kernel
theorem dX12_tree_286 : decode cX12_tree 286 = .ok (.iload 6, 2) := by decide +kernel
theorem dX12_tree_288 : decode cX12_tree 288 = .ok (.aload_n 0, 1) := by decide +kernel
theorem dX12_tree_289 : decode cX12_tree 289 = .ok (.getfield 186, 3) := by decide +kernel
theorem dX12_tree_292 : decode cX12_tree 292 = .ok (.iastore, 1) := by decide +kernel
theorem dX12_tree_293 : decode cX12_tree 293 = .ok (.aload_n 0, 1) := by decide +kernel
theorem dX12_tree_294 : decode cX12_tree 294 = .ok (.getfield 106, 3) := by decide +kernel
theorem dX12_tree_297 : decode cX12_tree 297 = .ok (.iload 6, 2) := by decide +kernel
theorem dX12_tree_299 : decode cX12_tree 299 = .ok (.iload 11, 2) := by decide +kernel
theorem dX12_tree_301 : decode cX12_tree 301 = .ok (.iastore, 1) := by decide +kernel
theorem dX12_tree_302 : decode cX12_tree 302 = .ok (.aload_n 0, 1) := by decide +kernel
theorem dX12_tree_303 : decode cX12_tree 303 = .ok (.getfield 109, 3) := by decide +kernel
theorem dX12_tree_306 : decode cX12_tree 306 = .ok (.iload 6, 2) := by decide +kernel
theorem dX12_tree_308 : decode cX12_tree 308 = .ok (.iload 8, 2) := by decide +kernel
theorem dX12_tree_310 : decode cX12_tree 310 = .ok (.iconst 1, 1) := by decide +kernel
theorem dX12_tree_311 : decode cX12_tree 311 = .ok (.iadd, 1) := by decide +kernel
theorem dX12_tree_312 : decode cX12_tree 312 = .ok (.iastore, 1) := by decide +kernel
theorem dX12_tree_313 : decode cX12_tree 313 = .ok (.iinc 6 1, 3) := by decide +kernel
theorem dX12_tree_316 : decode cX12_tree 316 = .ok (.iinc 12 1, 3) := by decide +kernel
theorem dX12_tree_319 : decode cX12_tree 319 = .ok (.goto (-75), 3) := by decide +kernel
theorem dX12_tree_322 : decode cX12_tree 322 = .ok (.iinc 11 (-1), 3) := by decide +kernel
theorem dX12_tree_325 : decode cX12_tree 325 = .ok (.goto (-89), 3) := by decide +kernel
theorem dX12_tree_328 : decode cX12_tree 328 = .ok (.aload_n 0, 1) := by decide +kernel
theorem dX12_tree_329 : decode cX12_tree 329 = .ok (.dup, 1) := by decide +kernel
theorem dX12_tree_330 : decode cX12_tree 330 = .ok (.getfield 186, 3) := by decide +kernel
theorem dX12_tree_333 : decode cX12_tree 333 = .ok (.iconst 1, 1) := by decide +kernel
theorem dX12_tree_334 : decode cX12_tree 334 = .ok (.iadd, 1) := by decide +kernel
theorem dX12_tree_335 : decode cX12_tree 335 = .ok (.putfield 186, 3) := by decide +kernel
theorem dX12_tree_338 : decode cX12_tree 338 = .ok (.goto (-240), 3) := by decide +kernel
theorem dX12_tree_341 : decode cX12_tree 341 = .ok (.aload_n 0, 1) := by decide +kernel
theorem dX12_tree_342 : decode cX12_tree 342 = .ok (.getfield 186, 3) := by decide +kernel
theorem dX12_tree_345 : decode cX12_tree 345 = .ok (.ireturn, 1) := by decide +kernel
theorem dX12_node_0 : decode cX12_node 0 = .ok (.aload_n 0, 1) := by decide +kernel
theorem dX12_node_1 : decode cX12_node 1 = .ok (.iconst 0, 1) := by decide +kernel
theorem dX12_node_2 : decode cX12_node 2 = .ok (.putfield 139, 3) := by decide +kernel
theorem dX12_node_5 : decode cX12_node 5 = .ok (.iload_n 1, 1) := by decide +kernel
theorem dX12_node_6 : decode cX12_node 6 = .ok (.iconst 0, 1) := by decide +kernel
theorem dX12_node_7 : decode cX12_node 7 = .ok (.aload_n 0, 1) := by decide +kernel
theorem dX12_node_8 : decode cX12_node 8 = .ok (.getfield 186, 3) := by decide +kernel
theorem dX12_node_11 : decode cX12_node 11 = .ok (.iconst 1, 1) := by decide +kernel
theorem dX12_node_12 : decode cX12_node 12 = .ok (.isub, 1) := by decide +kernel
theorem dX12_node_13 : decode cX12_node 13 = .ok (.invokestatic 142, 3) := by decide +kernel
theorem dX12_node_16 : decode cX12_node 16 = .ok (.ifCond .ne 5, 3) := by decide +kernel
theorem dX12_node_19 : decode cX12_node 19 = .ok (.iconst (-1), 1) := by decide +kernel
theorem dX12_node_20 : decode cX12_node 20 = .ok (.ireturn, 1) := by decide +kernel
theorem dX12_node_21 : decode cX12_node 21 = .ok (.iload_n 2, 1) := by decide +kernel
theorem dX12_node_22 : decode cX12_node 22 = .ok (.tableswitch 69 0 4 #[34, 41, 48, 55, 62], 34) := by decide +kernel
theorem dX12_node_56 : decode cX12_node 56 = .ok (.aload_n 0, 1) := by decide +kernel
theorem dX12_node_57 : decode cX12_node 57 = .ok (.getfield 85, 3) := by decide +kernel
theorem dX12_node_60 : decode cX12_node 60 = .ok (.iload_n 1, 1) := by decide +kernel
theorem dX12_node_61 : decode cX12_node 61 = .ok (.iaload, 1) := by decide +kernel
theorem dX12_node_62 : decode cX12_node 62 = .ok (.ireturn, 1) := by decide +kernel
theorem dX12_node_63 : decode cX12_node 63 = .ok (.aload_n 0, 1) := by decide +kernel
theorem dX12_node_64 : decode cX12_node 64 = .ok (.getfield 88, 3) := by decide +kernel
theorem dX12_node_67 : decode cX12_node 67 = .ok (.iload_n 1, 1) := by decide +kernel
theorem dX12_node_68 : decode cX12_node 68 = .ok (.iaload, 1) := by decide +kernel
theorem dX12_node_69 : decode cX12_node 69 = .ok (.ireturn, 1) := by decide +kernel
theorem dX12_node_70 : decode cX12_node 70 = .ok (.aload_n 0, 1) := by decide +kernel
theorem dX12_node_71 : decode cX12_node 71 = .ok (.getfield 91, 3) := by decide +kernel
theorem dX12_node_74 : decode cX12_node 74 = .ok (.iload_n 1, 1) := by decide +kernel
theorem dX12_node_75 : decode cX12_node 75 = .ok (.iaload, 1) := by decide +kernel
theorem dX12_node_76 : decode cX12_node 76 = .ok (.ireturn, 1) := by decide +kernel
theorem dX12_node_77 : decode cX12_node 77 = .ok (.aload_n 0, 1) := by decide +kernel
theorem dX12_node_78 : decode cX12_node 78 = .ok (.getfield 94, 3) := by decide +kernel
theorem dX12_node_81 : decode cX12_node 81 = .ok (.iload_n 1, 1) := by decide +kernel
theorem dX12_node_82 : decode cX12_node 82 = .ok (.iaload, 1) := by decide +kernel
theorem dX12_node_83 : decode cX12_node 83 = .ok (.ireturn, 1) := by decide +kernel
theorem dX12_node_84 : decode cX12_node 84 = .ok (.aload_n 0, 1) := by decide +kernel
theorem dX12_node_85 : decode cX12_node 85 = .ok (.getfield 97, 3) := by decide +kernel
theorem dX12_node_88 : decode cX12_node 88 = .ok (.iload_n 1, 1) := by decide +kernel
theorem dX12_node_89 : decode cX12_node 89 = .ok (.iaload, 1) := by decide +kernel
theorem dX12_node_90 : decode cX12_node 90 = .ok (.ireturn, 1) := by decide +kernel
theorem dX12_node_91 : decode cX12_node 91 = .ok (.iconst (-1), 1) := by decide +kernel
theorem dX12_node_92 : decode cX12_node 92 = .ok (.ireturn, 1) := by decide +kernel
theorem dX12_plan_0 : decode cX12_plan 0 = .ok (.aload_n 0, 1) := by decide +kernel
theorem dX12_plan_1 : decode cX12_plan 1 = .ok (.iconst 0, 1) := by decide +kernel
theorem dX12_plan_2 : decode cX12_plan 2 = .ok (.putfield 139, 3) := by decide +kernel
theorem dX12_plan_5 : decode cX12_plan 5 = .ok (.aload_n 0, 1) := by decide +kernel
theorem dX12_plan_6 : decode cX12_plan 6 = .ok (.getfield 189, 3) := by decide +kernel
theorem dX12_plan_9 : decode cX12_plan 9 = .ok (.ifCond .ne 16, 3) := by decide +kernel
theorem dX12_plan_12 : decode cX12_plan 12 = .ok (.iload_n 1, 1) := by decide +kernel
theorem dX12_plan_13 : decode cX12_plan 13 = .ok (.iconst (-1), 1) := by decide +kernel
theorem dX12_plan_14 : decode cX12_plan 14 = .ok (.if_icmp .ne 7, 3) := by decide +kernel
theorem dX12_plan_17 : decode cX12_plan 17 = .ok (.iconst 1, 1) := by decide +kernel
theorem dX12_plan_18 : decode cX12_plan 18 = .ok (.goto 34, 3) := by decide +kernel
theorem dX12_plan_21 : decode cX12_plan 21 = .ok (.iconst 0, 1) := by decide +kernel
theorem dX12_plan_22 : decode cX12_plan 22 = .ok (.goto 30, 3) := by decide +kernel
theorem dX12_plan_25 : decode cX12_plan 25 = .ok (.iload_n 1, 1) := by decide +kernel
theorem dX12_plan_26 : decode cX12_plan 26 = .ok (.iconst 0, 1) := by decide +kernel
theorem dX12_plan_27 : decode cX12_plan 27 = .ok (.aload_n 0, 1) := by decide +kernel
theorem dX12_plan_28 : decode cX12_plan 28 = .ok (.getfield 189, 3) := by decide +kernel
theorem dX12_plan_31 : decode cX12_plan 31 = .ok (.iconst 1, 1) := by decide +kernel
theorem dX12_plan_32 : decode cX12_plan 32 = .ok (.isub, 1) := by decide +kernel
theorem dX12_plan_33 : decode cX12_plan 33 = .ok (.invokestatic 142, 3) := by decide +kernel
theorem dX12_plan_36 : decode cX12_plan 36 = .ok (.ifCond .eq 15, 3) := by decide +kernel
theorem dX12_plan_39 : decode cX12_plan 39 = .ok (.aload_n 0, 1) := by decide +kernel
theorem dX12_plan_40 : decode cX12_plan 40 = .ok (.iload_n 2, 1) := by decide +kernel
theorem dX12_plan_41 : decode cX12_plan 41 = .ok (.invokevirtual 217, 3) := by decide +kernel
theorem dX12_plan_44 : decode cX12_plan 44 = .ok (.ifCond .eq 7, 3) := by decide +kernel
theorem dX12_plan_47 : decode cX12_plan 47 = .ok (.iconst 1, 1) := by decide +kernel
theorem dX12_plan_48 : decode cX12_plan 48 = .ok (.goto 4, 3) := by decide +kernel
theorem dX12_plan_51 : decode cX12_plan 51 = .ok (.iconst 0, 1) := by decide +kernel
theorem dX12_plan_52 : decode cX12_plan 52 = .ok (.istore 4, 2) := by decide +kernel
theorem dX12_plan_54 : decode cX12_plan 54 = .ok (.iload 4, 2) := by decide +kernel
theorem dX12_plan_56 : decode cX12_plan 56 = .ok (.ifCond .eq 11, 3) := by decide +kernel
theorem dX12_plan_59 : decode cX12_plan 59 = .ok (.aload_n 0, 1) := by decide +kernel
theorem dX12_plan_60 : decode cX12_plan 60 = .ok (.iload_n 3, 1) := by decide +kernel
theorem dX12_plan_61 : decode cX12_plan 61 = .ok (.invokevirtual 199, 3) := by decide +kernel
theorem dX12_plan_64 : decode cX12_plan 64 = .ok (.ifCond .ne 5, 3) := by decide +kernel
theorem dX12_plan_67 : decode cX12_plan 67 = .ok (.iconst (-1), 1) := by decide +kernel
theorem dX12_plan_68 : decode cX12_plan 68 = .ok (.ireturn, 1) := by decide +kernel
theorem dX12_plan_69 : decode cX12_plan 69 = .ok (.aload_n 0, 1) := by decide +kernel
theorem dX12_plan_70 : decode cX12_plan 70 = .ok (.getfield 189, 3) := by decide +kernel
theorem dX12_plan_73 : decode cX12_plan 73 = .ok (.bipush 40, 2) := by decide +kernel
theorem dX12_plan_75 : decode cX12_plan 75 = .ok (.if_icmp .ne 6, 3) := by decide +kernel
theorem dX12_plan_78 : decode cX12_plan 78 = .ok (.bipush (-2), 2) := by decide +kernel
theorem dX12_plan_80 : decode cX12_plan 80 = .ok (.ireturn, 1) := by decide +kernel
theorem dX12_plan_81 : decode cX12_plan 81 = .ok (.aload_n 0, 1) := by decide +kernel
theorem dX12_plan_82 : decode cX12_plan 82 = .ok (.getfield 112, 3) := by decide +kernel
theorem dX12_plan_85 : decode cX12_plan 85 = .ok (.aload_n 0, 1) := by decide +kernel
theorem dX12_plan_86 : decode cX12_plan 86 = .ok (.getfield 189, 3) := by decide +kernel
theorem dX12_plan_89 : decode cX12_plan 89 = .ok (.iload_n 1, 1) := by decide +kernel
theorem dX12_plan_90 : decode cX12_plan 90 = .ok (.iastore, 1) := by decide +kernel
theorem dX12_plan_91 : decode cX12_plan 91 = .ok (.aload_n 0, 1) := by decide +kernel
theorem dX12_plan_92 : decode cX12_plan 92 = .ok (.getfield 115, 3) := by decide +kernel
theorem dX12_plan_95 : decode cX12_plan 95 = .ok (.aload_n 0, 1) := by decide +kernel
theorem dX12_plan_96 : decode cX12_plan 96 = .ok (.getfield 189, 3) := by decide +kernel
theorem dX12_plan_99 : decode cX12_plan 99 = .ok (.iload_n 2, 1) := by decide +kernel
theorem dX12_plan_100 : decode cX12_plan 100 = .ok (.iastore, 1) := by decide +kernel
theorem dX12_plan_101 : decode cX12_plan 101 = .ok (.aload_n 0, 1) := by decide +kernel
theorem dX12_plan_102 : decode cX12_plan 102 = .ok (.getfield 118, 3) := by decide +kernel
theorem dX12_plan_105 : decode cX12_plan 105 = .ok (.aload_n 0, 1) := by decide +kernel
theorem dX12_plan_106 : decode cX12_plan 106 = .ok (.getfield 189, 3) := by decide +kernel
theorem dX12_plan_109 : decode cX12_plan 109 = .ok (.iload_n 3, 1) := by decide +kernel
theorem dX12_plan_110 : decode cX12_plan 110 = .ok (.iastore, 1) := by decide +kernel
theorem dX12_plan_111 : decode cX12_plan 111 = .ok (.aload_n 0, 1) := by decide +kernel
theorem dX12_plan_112 : decode cX12_plan 112 = .ok (.dup, 1) := by decide +kernel
theorem dX12_plan_113 : decode cX12_plan 113 = .ok (.getfield 189, 3) := by decide +kernel
theorem dX12_plan_116 : decode cX12_plan 116 = .ok (.iconst 1, 1) := by decide +kernel
theorem dX12_plan_117 : decode cX12_plan 117 = .ok (.iadd, 1) := by decide +kernel
theorem dX12_plan_118 : decode cX12_plan 118 = .ok (.putfield 189, 3) := by decide +kernel
theorem dX12_plan_121 : decode cX12_plan 121 = .ok (.aload_n 0, 1) := by decide +kernel
theorem dX12_plan_122 : decode cX12_plan 122 = .ok (.getfield 189, 3) := by decide +kernel
theorem dX12_plan_125 : decode cX12_plan 125 = .ok (.iconst 1, 1) := by decide +kernel
theorem dX12_plan_126 : decode cX12_plan 126 = .ok (.isub, 1) := by decide +kernel
theorem dX12_plan_127 : decode cX12_plan 127 = .ok (.ireturn, 1) := by decide +kernel
theorem dX12_drop_0 : decode cX12_drop 0 = .ok (.aload_n 0, 1) := by decide +kernel
theorem dX12_drop_1 : decode cX12_drop 1 = .ok (.iconst 0, 1) := by decide +kernel
theorem dX12_drop_2 : decode cX12_drop 2 = .ok (.putfield 139, 3) := by decide +kernel
theorem dX12_drop_5 : decode cX12_drop 5 = .ok (.aload_n 0, 1) := by decide +kernel
theorem dX12_drop_6 : decode cX12_drop 6 = .ok (.getfield 189, 3) := by decide +kernel
theorem dX12_drop_9 : decode cX12_drop 9 = .ok (.istore_n 1, 1) := by decide +kernel
theorem dX12_drop_10 : decode cX12_drop 10 = .ok (.aload_n 0, 1) := by decide +kernel
theorem dX12_drop_11 : decode cX12_drop 11 = .ok (.iconst 0, 1) := by decide +kernel
theorem dX12_drop_12 : decode cX12_drop 12 = .ok (.putfield 189, 3) := by decide +kernel
theorem dX12_drop_15 : decode cX12_drop 15 = .ok (.iload_n 1, 1) := by decide +kernel
theorem dX12_drop_16 : decode cX12_drop 16 = .ok (.ireturn, 1) := by decide +kernel
theorem dX12_isMeant_0 : decode cX12_isMeant 0 = .ok (.iload_n 2, 1) := by decide +kernel
theorem dX12_isMeant_1 : decode cX12_isMeant 1 = .ok (.istore_n 3, 1) := by decide +kernel
theorem dX12_isMeant_2 : decode cX12_isMeant 2 = .ok (.iload_n 3, 1) := by decide +kernel
theorem dX12_isMeant_3 : decode cX12_isMeant 3 = .ok (.ifCond .le 44, 3) := by decide +kernel
theorem dX12_isMeant_6 : decode cX12_isMeant 6 = .ok (.aload_n 0, 1) := by decide +kernel
theorem dX12_isMeant_7 : decode cX12_isMeant 7 = .ok (.aload_n 0, 1) := by decide +kernel
theorem dX12_isMeant_8 : decode cX12_isMeant 8 = .ok (.getfield 118, 3) := by decide +kernel
theorem dX12_isMeant_11 : decode cX12_isMeant 11 = .ok (.aload_n 0, 1) := by decide +kernel
theorem dX12_isMeant_12 : decode cX12_isMeant 12 = .ok (.getfield 112, 3) := by decide +kernel
theorem dX12_isMeant_15 : decode cX12_isMeant 15 = .ok (.iload_n 3, 1) := by decide +kernel
theorem dX12_isMeant_16 : decode cX12_isMeant 16 = .ok (.iaload, 1) := by decide +kernel
theorem dX12_isMeant_17 : decode cX12_isMeant 17 = .ok (.iaload, 1) := by decide +kernel
theorem dX12_isMeant_18 : decode cX12_isMeant 18 = .ok (.invokevirtual 214, 3) := by decide +kernel
theorem dX12_isMeant_21 : decode cX12_isMeant 21 = .ok (.aload_n 0, 1) := by decide +kernel
theorem dX12_isMeant_22 : decode cX12_isMeant 22 = .ok (.iload_n 1, 1) := by decide +kernel
theorem dX12_isMeant_23 : decode cX12_isMeant 23 = .ok (.invokevirtual 160, 3) := by decide +kernel
theorem dX12_isMeant_26 : decode cX12_isMeant 26 = .ok (.aload_n 0, 1) := by decide +kernel
theorem dX12_isMeant_27 : decode cX12_isMeant 27 = .ok (.getfield 115, 3) := by decide +kernel
theorem dX12_isMeant_30 : decode cX12_isMeant 30 = .ok (.iload_n 3, 1) := by decide +kernel
theorem dX12_isMeant_31 : decode cX12_isMeant 31 = .ok (.iaload, 1) := by decide +kernel
theorem dX12_isMeant_32 : decode cX12_isMeant 32 = .ok (.if_icmp .eq 5, 3) := by decide +kernel
theorem dX12_isMeant_35 : decode cX12_isMeant 35 = .ok (.iconst 0, 1) := by decide +kernel
theorem dX12_isMeant_36 : decode cX12_isMeant 36 = .ok (.ireturn, 1) := by decide +kernel
theorem dX12_isMeant_37 : decode cX12_isMeant 37 = .ok (.aload_n 0, 1) := by decide +kernel
theorem dX12_isMeant_38 : decode cX12_isMeant 38 = .ok (.getfield 112, 3) := by decide +kernel
theorem dX12_isMeant_41 : decode cX12_isMeant 41 = .ok (.iload_n 3, 1) := by decide +kernel
theorem dX12_isMeant_42 : decode cX12_isMeant 42 = .ok (.iaload, 1) := by decide +kernel
theorem dX12_isMeant_43 : decode cX12_isMeant 43 = .ok (.istore_n 3, 1) := by decide +kernel
theorem dX12_isMeant_44 : decode cX12_isMeant 44 = .ok (.goto (-42), 3) := by decide +kernel
theorem dX12_isMeant_47 : decode cX12_isMeant 47 = .ok (.iconst 1, 1) := by decide +kernel
theorem dX12_isMeant_48 : decode cX12_isMeant 48 = .ok (.ireturn, 1) := by decide +kernel
theorem dX12_isWhole_0 : decode cX12_isWhole 0 = .ok (.iconst 0, 1) := by decide +kernel
theorem dX12_isWhole_1 : decode cX12_isWhole 1 = .ok (.istore_n 2, 1) := by decide +kernel
theorem dX12_isWhole_2 : decode cX12_isWhole 2 = .ok (.iload_n 2, 1) := by decide +kernel
theorem dX12_isWhole_3 : decode cX12_isWhole 3 = .ok (.bipush 60, 2) := by decide +kernel
theorem dX12_isWhole_5 : decode cX12_isWhole 5 = .ok (.if_icmp .ge 16, 3) := by decide +kernel
theorem dX12_isWhole_8 : decode cX12_isWhole 8 = .ok (.aload_n 0, 1) := by decide +kernel
theorem dX12_isWhole_9 : decode cX12_isWhole 9 = .ok (.getfield 121, 3) := by decide +kernel
theorem dX12_isWhole_12 : decode cX12_isWhole 12 = .ok (.iload_n 2, 1) := by decide +kernel
theorem dX12_isWhole_13 : decode cX12_isWhole 13 = .ok (.iconst 0, 1) := by decide +kernel
theorem dX12_isWhole_14 : decode cX12_isWhole 14 = .ok (.iastore, 1) := by decide +kernel
theorem dX12_isWhole_15 : decode cX12_isWhole 15 = .ok (.iinc 2 1, 3) := by decide +kernel
theorem dX12_isWhole_18 : decode cX12_isWhole 18 = .ok (.goto (-16), 3) := by decide +kernel
theorem dX12_isWhole_21 : decode cX12_isWhole 21 = .ok (.iconst 0, 1) := by decide +kernel
theorem dX12_isWhole_22 : decode cX12_isWhole 22 = .ok (.istore_n 2, 1) := by decide +kernel
theorem dX12_isWhole_23 : decode cX12_isWhole 23 = .ok (.iload_n 2, 1) := by decide +kernel
theorem dX12_isWhole_24 : decode cX12_isWhole 24 = .ok (.aload_n 0, 1) := by decide +kernel
theorem dX12_isWhole_25 : decode cX12_isWhole 25 = .ok (.getfield 164, 3) := by decide +kernel
theorem dX12_isWhole_28 : decode cX12_isWhole 28 = .ok (.if_icmp .ge 52, 3) := by decide +kernel
theorem dX12_isWhole_31 : decode cX12_isWhole 31 = .ok (.aload_n 0, 1) := by decide +kernel
theorem dX12_isWhole_32 : decode cX12_isWhole 32 = .ok (.aload_n 0, 1) := by decide +kernel
theorem dX12_isWhole_33 : decode cX12_isWhole 33 = .ok (.getfield 42, 3) := by decide +kernel
theorem dX12_isWhole_36 : decode cX12_isWhole 36 = .ok (.iload_n 2, 1) := by decide +kernel
theorem dX12_isWhole_37 : decode cX12_isWhole 37 = .ok (.iaload, 1) := by decide +kernel
theorem dX12_isWhole_38 : decode cX12_isWhole 38 = .ok (.iload_n 1, 1) := by decide +kernel
theorem dX12_isWhole_39 : decode cX12_isWhole 39 = .ok (.invokevirtual 260, 3) := by decide +kernel
theorem dX12_isWhole_42 : decode cX12_isWhole 42 = .ok (.ifCond .ne 6, 3) := by decide +kernel
theorem dX12_isWhole_45 : decode cX12_isWhole 45 = .ok (.goto 29, 3) := by decide +kernel
theorem dX12_isWhole_48 : decode cX12_isWhole 48 = .ok (.aload_n 0, 1) := by decide +kernel
theorem dX12_isWhole_49 : decode cX12_isWhole 49 = .ok (.aload_n 0, 1) := by decide +kernel
theorem dX12_isWhole_50 : decode cX12_isWhole 50 = .ok (.getfield 118, 3) := by decide +kernel
theorem dX12_isWhole_53 : decode cX12_isWhole 53 = .ok (.iload_n 1, 1) := by decide +kernel
theorem dX12_isWhole_54 : decode cX12_isWhole 54 = .ok (.iaload, 1) := by decide +kernel
theorem dX12_isWhole_55 : decode cX12_isWhole 55 = .ok (.invokevirtual 214, 3) := by decide +kernel
theorem dX12_isWhole_58 : decode cX12_isWhole 58 = .ok (.aload_n 0, 1) := by decide +kernel
theorem dX12_isWhole_59 : decode cX12_isWhole 59 = .ok (.getfield 121, 3) := by decide +kernel
theorem dX12_isWhole_62 : decode cX12_isWhole 62 = .ok (.aload_n 0, 1) := by decide +kernel
theorem dX12_isWhole_63 : decode cX12_isWhole 63 = .ok (.aload_n 0, 1) := by decide +kernel
theorem dX12_isWhole_64 : decode cX12_isWhole 64 = .ok (.getfield 42, 3) := by decide +kernel
theorem dX12_isWhole_67 : decode cX12_isWhole 67 = .ok (.iload_n 2, 1) := by decide +kernel
theorem dX12_isWhole_68 : decode cX12_isWhole 68 = .ok (.iaload, 1) := by decide +kernel
theorem dX12_isWhole_69 : decode cX12_isWhole 69 = .ok (.invokevirtual 160, 3) := by decide +kernel
theorem dX12_isWhole_72 : decode cX12_isWhole 72 = .ok (.iconst 1, 1) := by decide +kernel
theorem dX12_isWhole_73 : decode cX12_isWhole 73 = .ok (.iastore, 1) := by decide +kernel
theorem dX12_isWhole_74 : decode cX12_isWhole 74 = .ok (.iinc 2 1, 3) := by decide +kernel
theorem dX12_isWhole_77 : decode cX12_isWhole 77 = .ok (.goto (-54), 3) := by decide +kernel
theorem dX12_isWhole_80 : decode cX12_isWhole 80 = .ok (.aload_n 0, 1) := by decide +kernel
theorem dX12_isWhole_81 : decode cX12_isWhole 81 = .ok (.getfield 121, 3) := by decide +kernel
theorem dX12_isWhole_84 : decode cX12_isWhole 84 = .ok (.bipush 10, 2) := by decide +kernel
theorem dX12_isWhole_86 : decode cX12_isWhole 86 = .ok (.aload_n 0, 1) := by decide +kernel
theorem dX12_isWhole_87 : decode cX12_isWhole 87 = .ok (.getfield 7, 3) := by decide +kernel
theorem dX12_isWhole_90 : decode cX12_isWhole 90 = .ok (.imul, 1) := by decide +kernel
theorem dX12_isWhole_91 : decode cX12_isWhole 91 = .ok (.iconst 0, 1) := by decide +kernel
theorem dX12_isWhole_92 : decode cX12_isWhole 92 = .ok (.iastore, 1) := by decide +kernel
theorem dX12_isWhole_93 : decode cX12_isWhole 93 = .ok (.iconst 0, 1) := by decide +kernel
theorem dX12_isWhole_94 : decode cX12_isWhole 94 = .ok (.istore_n 2, 1) := by decide +kernel
theorem dX12_isWhole_95 : decode cX12_isWhole 95 = .ok (.iload_n 2, 1) := by decide +kernel
theorem dX12_isWhole_96 : decode cX12_isWhole 96 = .ok (.bipush 60, 2) := by decide +kernel
theorem dX12_isWhole_98 : decode cX12_isWhole 98 = .ok (.if_icmp .ge 71, 3) := by decide +kernel
theorem dX12_isWhole_101 : decode cX12_isWhole 101 = .ok (.iconst 0, 1) := by decide +kernel
theorem dX12_isWhole_102 : decode cX12_isWhole 102 = .ok (.istore_n 3, 1) := by decide +kernel
theorem dX12_isWhole_103 : decode cX12_isWhole 103 = .ok (.iconst 1, 1) := by decide +kernel
theorem dX12_isWhole_104 : decode cX12_isWhole 104 = .ok (.istore 4, 2) := by decide +kernel
theorem dX12_isWhole_106 : decode cX12_isWhole 106 = .ok (.iload 4, 2) := by decide +kernel
theorem dX12_isWhole_108 : decode cX12_isWhole 108 = .ok (.aload_n 0, 1) := by decide +kernel
theorem dX12_isWhole_109 : decode cX12_isWhole 109 = .ok (.getfield 189, 3) := by decide +kernel
theorem dX12_isWhole_112 : decode cX12_isWhole 112 = .ok (.if_icmp .ge 39, 3) := by decide +kernel
theorem dX12_isWhole_115 : decode cX12_isWhole 115 = .ok (.iload_n 3, 1) := by decide +kernel
theorem dX12_isWhole_116 : decode cX12_isWhole 116 = .ok (.aload_n 0, 1) := by decide +kernel
theorem dX12_isWhole_117 : decode cX12_isWhole 117 = .ok (.getfield 112, 3) := by decide +kernel
theorem dX12_isWhole_120 : decode cX12_isWhole 120 = .ok (.iload 4, 2) := by decide +kernel
theorem dX12_isWhole_122 : decode cX12_isWhole 122 = .ok (.iaload, 1) := by decide +kernel
theorem dX12_isWhole_123 : decode cX12_isWhole 123 = .ok (.iload_n 1, 1) := by decide +kernel
theorem dX12_isWhole_124 : decode cX12_isWhole 124 = .ok (.if_icmp .ne 18, 3) := by decide +kernel
theorem dX12_isWhole_127 : decode cX12_isWhole 127 = .ok (.aload_n 0, 1) := by decide +kernel
theorem dX12_isWhole_128 : decode cX12_isWhole 128 = .ok (.getfield 115, 3) := by decide +kernel
theorem dX12_isWhole_131 : decode cX12_isWhole 131 = .ok (.iload 4, 2) := by decide +kernel
theorem dX12_isWhole_133 : decode cX12_isWhole 133 = .ok (.iaload, 1) := by decide +kernel
theorem dX12_isWhole_134 : decode cX12_isWhole 134 = .ok (.iload_n 2, 1) := by decide +kernel
theorem dX12_isWhole_135 : decode cX12_isWhole 135 = .ok (.if_icmp .ne 7, 3) := by decide +kernel
theorem dX12_isWhole_138 : decode cX12_isWhole 138 = .ok (.iconst 1, 1) := by decide +kernel
theorem dX12_isWhole_139 : decode cX12_isWhole 139 = .ok (.goto 4, 3) := by decide +kernel
theorem dX12_isWhole_142 : decode cX12_isWhole 142 = .ok (.iconst 0, 1) := by decide +kernel
theorem dX12_isWhole_143 : decode cX12_isWhole 143 = .ok (.iadd, 1) := by decide +kernel
theorem dX12_isWhole_144 : decode cX12_isWhole 144 = .ok (.istore_n 3, 1) := by decide +kernel
theorem dX12_isWhole_145 : decode cX12_isWhole 145 = .ok (.iinc 4 1, 3) := by decide +kernel
theorem dX12_isWhole_148 : decode cX12_isWhole 148 = .ok (.goto (-42), 3) := by decide +kernel
theorem dX12_isWhole_151 : decode cX12_isWhole 151 = .ok (.iload_n 3, 1) := by decide +kernel
theorem dX12_isWhole_152 : decode cX12_isWhole 152 = .ok (.aload_n 0, 1) := by decide +kernel
theorem dX12_isWhole_153 : decode cX12_isWhole 153 = .ok (.getfield 121, 3) := by decide +kernel
theorem dX12_isWhole_156 : decode cX12_isWhole 156 = .ok (.iload_n 2, 1) := by decide +kernel
theorem dX12_isWhole_157 : decode cX12_isWhole 157 = .ok (.iaload, 1) := by decide +kernel
theorem dX12_isWhole_158 : decode cX12_isWhole 158 = .ok (.if_icmp .eq 5, 3) := by decide +kernel
theorem dX12_isWhole_161 : decode cX12_isWhole 161 = .ok (.iconst 0, 1) := by decide +kernel
theorem dX12_isWhole_162 : decode cX12_isWhole 162 = .ok (.ireturn, 1) := by decide +kernel
theorem dX12_isWhole_163 : decode cX12_isWhole 163 = .ok (.iinc 2 1, 3) := by decide +kernel
theorem dX12_isWhole_166 : decode cX12_isWhole 166 = .ok (.goto (-71), 3) := by decide +kernel
theorem dX12_isWhole_169 : decode cX12_isWhole 169 = .ok (.iconst 1, 1) := by decide +kernel
theorem dX12_isWhole_170 : decode cX12_isWhole 170 = .ok (.ireturn, 1) := by decide +kernel
theorem dX12_judged_0 : decode cX12_judged 0 = .ok (.aload_n 0, 1) := by decide +kernel
theorem dX12_judged_1 : decode cX12_judged 1 = .ok (.invokevirtual 208, 3) := by decide +kernel
theorem dX12_judged_4 : decode cX12_judged 4 = .ok (.aload_n 0, 1) := by decide +kernel
theorem dX12_judged_5 : decode cX12_judged 5 = .ok (.getfield 189, 3) := by decide +kernel
theorem dX12_judged_8 : decode cX12_judged 8 = .ok (.ifCond .eq 10, 3) := by decide +kernel
theorem dX12_judged_11 : decode cX12_judged 11 = .ok (.aload_n 0, 1) := by decide +kernel
theorem dX12_judged_12 : decode cX12_judged 12 = .ok (.getfield 164, 3) := by decide +kernel
theorem dX12_judged_15 : decode cX12_judged 15 = .ok (.ifCond .ne 5, 3) := by decide +kernel
theorem dX12_judged_18 : decode cX12_judged 18 = .ok (.iconst (-1), 1) := by decide +kernel
theorem dX12_judged_19 : decode cX12_judged 19 = .ok (.ireturn, 1) := by decide +kernel
theorem dX12_judged_20 : decode cX12_judged 20 = .ok (.aload_n 0, 1) := by decide +kernel
theorem dX12_judged_21 : decode cX12_judged 21 = .ok (.getfield 180, 3) := by decide +kernel
theorem dX12_judged_24 : decode cX12_judged 24 = .ok (.ifCond .eq 6, 3) := by decide +kernel
theorem dX12_judged_27 : decode cX12_judged 27 = .ok (.bipush (-6), 2) := by decide +kernel
theorem dX12_judged_29 : decode cX12_judged 29 = .ok (.ireturn, 1) := by decide +kernel
theorem dX12_judged_30 : decode cX12_judged 30 = .ok (.iconst 0, 1) := by decide +kernel
theorem dX12_judged_31 : decode cX12_judged 31 = .ok (.istore_n 1, 1) := by decide +kernel
theorem dX12_judged_32 : decode cX12_judged 32 = .ok (.iload_n 1, 1) := by decide +kernel
theorem dX12_judged_33 : decode cX12_judged 33 = .ok (.aload_n 0, 1) := by decide +kernel
theorem dX12_judged_34 : decode cX12_judged 34 = .ok (.getfield 189, 3) := by decide +kernel
theorem dX12_judged_37 : decode cX12_judged 37 = .ok (.if_icmp .ge 22, 3) := by decide +kernel
theorem dX12_judged_40 : decode cX12_judged 40 = .ok (.aload_n 0, 1) := by decide +kernel
theorem dX12_judged_41 : decode cX12_judged 41 = .ok (.iload_n 1, 1) := by decide +kernel
theorem dX12_judged_42 : decode cX12_judged 42 = .ok (.invokevirtual 263, 3) := by decide +kernel
theorem dX12_judged_45 : decode cX12_judged 45 = .ok (.ifCond .ne 8, 3) := by decide +kernel
theorem dX12_judged_48 : decode cX12_judged 48 = .ok (.bipush (-20), 2) := by decide +kernel
theorem dX12_judged_50 : decode cX12_judged 50 = .ok (.iload_n 1, 1) := by decide +kernel
theorem dX12_judged_51 : decode cX12_judged 51 = .ok (.isub, 1) := by decide +kernel
theorem dX12_judged_52 : decode cX12_judged 52 = .ok (.ireturn, 1) := by decide +kernel
theorem dX12_judged_53 : decode cX12_judged 53 = .ok (.iinc 1 1, 3) := by decide +kernel
theorem dX12_judged_56 : decode cX12_judged 56 = .ok (.goto (-24), 3) := by decide +kernel
theorem dX12_judged_59 : decode cX12_judged 59 = .ok (.iconst 0, 1) := by decide +kernel
theorem dX12_judged_60 : decode cX12_judged 60 = .ok (.istore_n 1, 1) := by decide +kernel
theorem dX12_judged_61 : decode cX12_judged 61 = .ok (.iconst 0, 1) := by decide +kernel
theorem dX12_judged_62 : decode cX12_judged 62 = .ok (.istore_n 2, 1) := by decide +kernel
theorem dX12_judged_63 : decode cX12_judged 63 = .ok (.iload_n 2, 1) := by decide +kernel
theorem dX12_judged_64 : decode cX12_judged 64 = .ok (.aload_n 0, 1) := by decide +kernel
theorem dX12_judged_65 : decode cX12_judged 65 = .ok (.getfield 189, 3) := by decide +kernel
theorem dX12_judged_68 : decode cX12_judged 68 = .ok (.if_icmp .ge 45, 3) := by decide +kernel
theorem dX12_judged_71 : decode cX12_judged 71 = .ok (.iconst 1, 1) := by decide +kernel
theorem dX12_judged_72 : decode cX12_judged 72 = .ok (.istore_n 3, 1) := by decide +kernel
theorem dX12_judged_73 : decode cX12_judged 73 = .ok (.iload_n 2, 1) := by decide +kernel
theorem dX12_judged_74 : decode cX12_judged 74 = .ok (.istore 4, 2) := by decide +kernel
theorem dX12_judged_76 : decode cX12_judged 76 = .ok (.iload 4, 2) := by decide +kernel
theorem dX12_judged_78 : decode cX12_judged 78 = .ok (.ifCond .le 18, 3) := by decide +kernel
theorem dX12_judged_81 : decode cX12_judged 81 = .ok (.iinc 3 1, 3) := by decide +kernel
theorem dX12_judged_84 : decode cX12_judged 84 = .ok (.aload_n 0, 1) := by decide +kernel
theorem dX12_judged_85 : decode cX12_judged 85 = .ok (.getfield 112, 3) := by decide +kernel
theorem dX12_judged_88 : decode cX12_judged 88 = .ok (.iload 4, 2) := by decide +kernel
theorem dX12_judged_90 : decode cX12_judged 90 = .ok (.iaload, 1) := by decide +kernel
theorem dX12_judged_91 : decode cX12_judged 91 = .ok (.istore 4, 2) := by decide +kernel
theorem dX12_judged_93 : decode cX12_judged 93 = .ok (.goto (-17), 3) := by decide +kernel
theorem dX12_judged_96 : decode cX12_judged 96 = .ok (.iload_n 3, 1) := by decide +kernel
theorem dX12_judged_97 : decode cX12_judged 97 = .ok (.iload_n 1, 1) := by decide +kernel
theorem dX12_judged_98 : decode cX12_judged 98 = .ok (.if_icmp .le 7, 3) := by decide +kernel
theorem dX12_judged_101 : decode cX12_judged 101 = .ok (.iload_n 3, 1) := by decide +kernel
theorem dX12_judged_102 : decode cX12_judged 102 = .ok (.goto 4, 3) := by decide +kernel
theorem dX12_judged_105 : decode cX12_judged 105 = .ok (.iload_n 1, 1) := by decide +kernel
theorem dX12_judged_106 : decode cX12_judged 106 = .ok (.istore_n 1, 1) := by decide +kernel
theorem dX12_judged_107 : decode cX12_judged 107 = .ok (.iinc 2 1, 3) := by decide +kernel
theorem dX12_judged_110 : decode cX12_judged 110 = .ok (.goto (-47), 3) := by decide +kernel
theorem dX12_judged_113 : decode cX12_judged 113 = .ok (.iload_n 1, 1) := by decide +kernel
theorem dX12_judged_114 : decode cX12_judged 114 = .ok (.ireturn, 1) := by decide +kernel
theorem dX12_judge_0 : decode cX12_judge 0 = .ok (.aload_n 0, 1) := by decide +kernel
theorem dX12_judge_1 : decode cX12_judge 1 = .ok (.iconst 0, 1) := by decide +kernel
theorem dX12_judge_2 : decode cX12_judge 2 = .ok (.putfield 139, 3) := by decide +kernel
theorem dX12_judge_5 : decode cX12_judge 5 = .ok (.aload_n 0, 1) := by decide +kernel
theorem dX12_judge_6 : decode cX12_judge 6 = .ok (.invokevirtual 266, 3) := by decide +kernel
theorem dX12_judge_9 : decode cX12_judge 9 = .ok (.ireturn, 1) := by decide +kernel
theorem dX12_total_0 : decode cX12_total 0 = .ok (.aload_n 0, 1) := by decide +kernel
theorem dX12_total_1 : decode cX12_total 1 = .ok (.iconst 0, 1) := by decide +kernel
theorem dX12_total_2 : decode cX12_total 2 = .ok (.putfield 139, 3) := by decide +kernel
theorem dX12_total_5 : decode cX12_total 5 = .ok (.aload_n 0, 1) := by decide +kernel
theorem dX12_total_6 : decode cX12_total 6 = .ok (.invokevirtual 266, 3) := by decide +kernel
theorem dX12_total_9 : decode cX12_total 9 = .ok (.ifCond .gt 5, 3) := by decide +kernel
theorem dX12_total_12 : decode cX12_total 12 = .ok (.iconst (-1), 1) := by decide +kernel
theorem dX12_total_13 : decode cX12_total 13 = .ok (.ireturn, 1) := by decide +kernel
theorem dX12_total_14 : decode cX12_total 14 = .ok (.iconst 0, 1) := by decide +kernel
theorem dX12_total_15 : decode cX12_total 15 = .ok (.istore_n 1, 1) := by decide +kernel
theorem dX12_total_16 : decode cX12_total 16 = .ok (.iconst 0, 1) := by decide +kernel
theorem dX12_total_17 : decode cX12_total 17 = .ok (.istore_n 2, 1) := by decide +kernel
theorem dX12_total_18 : decode cX12_total 18 = .ok (.iload_n 2, 1) := by decide +kernel
theorem dX12_total_19 : decode cX12_total 19 = .ok (.aload_n 0, 1) := by decide +kernel
theorem dX12_total_20 : decode cX12_total 20 = .ok (.getfield 164, 3) := by decide +kernel
theorem dX12_total_23 : decode cX12_total 23 = .ok (.if_icmp .ge 108, 3) := by decide +kernel
theorem dX12_total_26 : decode cX12_total 26 = .ok (.iconst 0, 1) := by decide +kernel
theorem dX12_total_27 : decode cX12_total 27 = .ok (.istore_n 3, 1) := by decide +kernel
theorem dX12_total_28 : decode cX12_total 28 = .ok (.iinc 1 1, 3) := by decide +kernel
theorem dX12_total_31 : decode cX12_total 31 = .ok (.aload_n 0, 1) := by decide +kernel
theorem dX12_total_32 : decode cX12_total 32 = .ok (.getfield 118, 3) := by decide +kernel
theorem dX12_total_35 : decode cX12_total 35 = .ok (.iload_n 3, 1) := by decide +kernel
theorem dX12_total_36 : decode cX12_total 36 = .ok (.iaload, 1) := by decide +kernel
theorem dX12_total_37 : decode cX12_total 37 = .ok (.aload_n 0, 1) := by decide +kernel
theorem dX12_total_38 : decode cX12_total 38 = .ok (.getfield 42, 3) := by decide +kernel
theorem dX12_total_41 : decode cX12_total 41 = .ok (.iload_n 2, 1) := by decide +kernel
theorem dX12_total_42 : decode cX12_total 42 = .ok (.iaload, 1) := by decide +kernel
theorem dX12_total_43 : decode cX12_total 43 = .ok (.if_icmp .eq 82, 3) := by decide +kernel
theorem dX12_total_46 : decode cX12_total 46 = .ok (.aload_n 0, 1) := by decide +kernel
theorem dX12_total_47 : decode cX12_total 47 = .ok (.aload_n 0, 1) := by decide +kernel
theorem dX12_total_48 : decode cX12_total 48 = .ok (.getfield 118, 3) := by decide +kernel
theorem dX12_total_51 : decode cX12_total 51 = .ok (.iload_n 3, 1) := by decide +kernel
theorem dX12_total_52 : decode cX12_total 52 = .ok (.iaload, 1) := by decide +kernel
theorem dX12_total_53 : decode cX12_total 53 = .ok (.invokevirtual 214, 3) := by decide +kernel
theorem dX12_total_56 : decode cX12_total 56 = .ok (.aload_n 0, 1) := by decide +kernel
theorem dX12_total_57 : decode cX12_total 57 = .ok (.aload_n 0, 1) := by decide +kernel
theorem dX12_total_58 : decode cX12_total 58 = .ok (.getfield 42, 3) := by decide +kernel
theorem dX12_total_61 : decode cX12_total 61 = .ok (.iload_n 2, 1) := by decide +kernel
theorem dX12_total_62 : decode cX12_total 62 = .ok (.iaload, 1) := by decide +kernel
theorem dX12_total_63 : decode cX12_total 63 = .ok (.invokevirtual 160, 3) := by decide +kernel
theorem dX12_total_66 : decode cX12_total 66 = .ok (.istore 4, 2) := by decide +kernel
theorem dX12_total_68 : decode cX12_total 68 = .ok (.iconst (-1), 1) := by decide +kernel
theorem dX12_total_69 : decode cX12_total 69 = .ok (.istore 5, 2) := by decide +kernel
theorem dX12_total_71 : decode cX12_total 71 = .ok (.iconst 1, 1) := by decide +kernel
theorem dX12_total_72 : decode cX12_total 72 = .ok (.istore 6, 2) := by decide +kernel
theorem dX12_total_74 : decode cX12_total 74 = .ok (.iload 6, 2) := by decide +kernel
theorem dX12_total_76 : decode cX12_total 76 = .ok (.aload_n 0, 1) := by decide +kernel
theorem dX12_total_77 : decode cX12_total 77 = .ok (.getfield 189, 3) := by decide +kernel
theorem dX12_total_80 : decode cX12_total 80 = .ok (.if_icmp .ge 36, 3) := by decide +kernel
theorem dX12_total_83 : decode cX12_total 83 = .ok (.aload_n 0, 1) := by decide +kernel
theorem dX12_total_84 : decode cX12_total 84 = .ok (.getfield 112, 3) := by decide +kernel
theorem dX12_total_87 : decode cX12_total 87 = .ok (.iload 6, 2) := by decide +kernel
theorem dX12_total_89 : decode cX12_total 89 = .ok (.iaload, 1) := by decide +kernel
theorem dX12_total_90 : decode cX12_total 90 = .ok (.iload_n 3, 1) := by decide +kernel
theorem dX12_total_91 : decode cX12_total 91 = .ok (.if_icmp .ne 19, 3) := by decide +kernel
theorem dX12_total_94 : decode cX12_total 94 = .ok (.aload_n 0, 1) := by decide +kernel
theorem dX12_total_95 : decode cX12_total 95 = .ok (.getfield 115, 3) := by decide +kernel
theorem dX12_total_98 : decode cX12_total 98 = .ok (.iload 6, 2) := by decide +kernel
theorem dX12_total_100 : decode cX12_total 100 = .ok (.iaload, 1) := by decide +kernel
theorem dX12_total_101 : decode cX12_total 101 = .ok (.iload 4, 2) := by decide +kernel
theorem dX12_total_103 : decode cX12_total 103 = .ok (.if_icmp .ne 7, 3) := by decide +kernel
theorem dX12_total_106 : decode cX12_total 106 = .ok (.iload 6, 2) := by decide +kernel
theorem dX12_total_108 : decode cX12_total 108 = .ok (.istore 5, 2) := by decide +kernel
theorem dX12_total_110 : decode cX12_total 110 = .ok (.iinc 6 1, 3) := by decide +kernel
theorem dX12_total_113 : decode cX12_total 113 = .ok (.goto (-39), 3) := by decide +kernel
theorem dX12_total_116 : decode cX12_total 116 = .ok (.iload 5, 2) := by decide +kernel
theorem dX12_total_118 : decode cX12_total 118 = .ok (.istore_n 3, 1) := by decide +kernel
theorem dX12_total_119 : decode cX12_total 119 = .ok (.iinc 1 1, 3) := by decide +kernel
theorem dX12_total_122 : decode cX12_total 122 = .ok (.goto (-91), 3) := by decide +kernel
theorem dX12_total_125 : decode cX12_total 125 = .ok (.iinc 2 1, 3) := by decide +kernel
theorem dX12_total_128 : decode cX12_total 128 = .ok (.goto (-110), 3) := by decide +kernel
theorem dX12_total_131 : decode cX12_total 131 = .ok (.iload_n 1, 1) := by decide +kernel
theorem dX12_total_132 : decode cX12_total 132 = .ok (.ireturn, 1) := by decide +kernel
theorem dX12_isShelf_0 : decode cX12_isShelf 0 = .ok (.iload_n 0, 1) := by decide +kernel
theorem dX12_isShelf_1 : decode cX12_isShelf 1 = .ok (.iconst 0, 1) := by decide +kernel
theorem dX12_isShelf_2 : decode cX12_isShelf 2 = .ok (.iconst 5, 1) := by decide +kernel
theorem dX12_isShelf_3 : decode cX12_isShelf 3 = .ok (.invokestatic 142, 3) := by decide +kernel
theorem dX12_isShelf_6 : decode cX12_isShelf 6 = .ok (.ireturn, 1) := by decide +kernel
theorem dX12_narrow_0 : decode cX12_narrow 0 = .ok (.iload_n 0, 1) := by decide +kernel
theorem dX12_narrow_1 : decode cX12_narrow 1 = .ok (.iconst 1, 1) := by decide +kernel
theorem dX12_narrow_2 : decode cX12_narrow 2 = .ok (.if_icmp .ne 8, 3) := by decide +kernel
theorem dX12_narrow_5 : decode cX12_narrow 5 = .ok (.iload_n 1, 1) := by decide +kernel
theorem dX12_narrow_6 : decode cX12_narrow 6 = .ok (.i2b, 1) := by decide +kernel
theorem dX12_narrow_7 : decode cX12_narrow 7 = .ok (.goto 18, 3) := by decide +kernel
theorem dX12_narrow_10 : decode cX12_narrow 10 = .ok (.iload_n 0, 1) := by decide +kernel
theorem dX12_narrow_11 : decode cX12_narrow 11 = .ok (.iconst 2, 1) := by decide +kernel
theorem dX12_narrow_12 : decode cX12_narrow 12 = .ok (.if_icmp .ne 11, 3) := by decide +kernel
theorem dX12_narrow_15 : decode cX12_narrow 15 = .ok (.iload_n 1, 1) := by decide +kernel
theorem dX12_narrow_16 : decode cX12_narrow 16 = .ok (.ldc_w 269, 3) := by decide +kernel
theorem dX12_narrow_19 : decode cX12_narrow 19 = .ok (.iand, 1) := by decide +kernel
theorem dX12_narrow_20 : decode cX12_narrow 20 = .ok (.goto 5, 3) := by decide +kernel
theorem dX12_narrow_23 : decode cX12_narrow 23 = .ok (.iload_n 1, 1) := by decide +kernel
theorem dX12_narrow_24 : decode cX12_narrow 24 = .ok (.i2s, 1) := by decide +kernel
theorem dX12_narrow_25 : decode cX12_narrow 25 = .ok (.ireturn, 1) := by decide +kernel
theorem dX12_rack_0 : decode cX12_rack 0 = .ok (.aload_n 0, 1) := by decide +kernel
theorem dX12_rack_1 : decode cX12_rack 1 = .ok (.iconst 0, 1) := by decide +kernel
theorem dX12_rack_2 : decode cX12_rack 2 = .ok (.putfield 139, 3) := by decide +kernel
theorem dX12_rack_5 : decode cX12_rack 5 = .ok (.iload_n 1, 1) := by decide +kernel
theorem dX12_rack_6 : decode cX12_rack 6 = .ok (.invokestatic 270, 3) := by decide +kernel
theorem dX12_rack_9 : decode cX12_rack 9 = .ok (.ifCond .eq 18, 3) := by decide +kernel
theorem dX12_rack_12 : decode cX12_rack 12 = .ok (.iload_n 2, 1) := by decide +kernel
theorem dX12_rack_13 : decode cX12_rack 13 = .ok (.iconst 1, 1) := by decide +kernel
theorem dX12_rack_14 : decode cX12_rack 14 = .ok (.iconst 3, 1) := by decide +kernel
theorem dX12_rack_15 : decode cX12_rack 15 = .ok (.invokestatic 142, 3) := by decide +kernel
theorem dX12_rack_18 : decode cX12_rack 18 = .ok (.ifCond .eq 9, 3) := by decide +kernel
theorem dX12_rack_21 : decode cX12_rack 21 = .ok (.iload_n 3, 1) := by decide +kernel
theorem dX12_rack_22 : decode cX12_rack 22 = .ok (.bipush 60, 2) := by decide +kernel
theorem dX12_rack_24 : decode cX12_rack 24 = .ok (.if_icmp .le 5, 3) := by decide +kernel
theorem dX12_rack_27 : decode cX12_rack 27 = .ok (.iconst (-1), 1) := by decide +kernel
theorem dX12_rack_28 : decode cX12_rack 28 = .ok (.ireturn, 1) := by decide +kernel
theorem dX12_rack_29 : decode cX12_rack 29 = .ok (.iload_n 3, 1) := by decide +kernel
theorem dX12_rack_30 : decode cX12_rack 30 = .ok (.ifCond .ge 10, 3) := by decide +kernel
theorem dX12_rack_33 : decode cX12_rack 33 = .ok (.aload_n 0, 1) := by decide +kernel
theorem dX12_rack_34 : decode cX12_rack 34 = .ok (.bipush (-14), 2) := by decide +kernel
theorem dX12_rack_36 : decode cX12_rack 36 = .ok (.invokevirtual 202, 3) := by decide +kernel
theorem dX12_rack_39 : decode cX12_rack 39 = .ok (.ireturn, 1) := by decide +kernel
theorem dX12_rack_40 : decode cX12_rack 40 = .ok (.aload_n 0, 1) := by decide +kernel
theorem dX12_rack_41 : decode cX12_rack 41 = .ok (.getfield 124, 3) := by decide +kernel
theorem dX12_rack_44 : decode cX12_rack 44 = .ok (.iload_n 1, 1) := by decide +kernel
theorem dX12_rack_45 : decode cX12_rack 45 = .ok (.iload_n 2, 1) := by decide +kernel
theorem dX12_rack_46 : decode cX12_rack 46 = .ok (.iastore, 1) := by decide +kernel
theorem dX12_rack_47 : decode cX12_rack 47 = .ok (.aload_n 0, 1) := by decide +kernel
theorem dX12_rack_48 : decode cX12_rack 48 = .ok (.getfield 127, 3) := by decide +kernel
theorem dX12_rack_51 : decode cX12_rack 51 = .ok (.iload_n 1, 1) := by decide +kernel
theorem dX12_rack_52 : decode cX12_rack 52 = .ok (.iload_n 3, 1) := by decide +kernel
theorem dX12_rack_53 : decode cX12_rack 53 = .ok (.iastore, 1) := by decide +kernel
theorem dX12_rack_54 : decode cX12_rack 54 = .ok (.iconst 0, 1) := by decide +kernel
theorem dX12_rack_55 : decode cX12_rack 55 = .ok (.istore 4, 2) := by decide +kernel
theorem dX12_rack_57 : decode cX12_rack 57 = .ok (.iload 4, 2) := by decide +kernel
theorem dX12_rack_59 : decode cX12_rack 59 = .ok (.bipush 60, 2) := by decide +kernel
theorem dX12_rack_61 : decode cX12_rack 61 = .ok (.if_icmp .ge 22, 3) := by decide +kernel
theorem dX12_rack_64 : decode cX12_rack 64 = .ok (.aload_n 0, 1) := by decide +kernel
theorem dX12_rack_65 : decode cX12_rack 65 = .ok (.getfield 130, 3) := by decide +kernel
theorem dX12_rack_68 : decode cX12_rack 68 = .ok (.bipush 60, 2) := by decide +kernel
theorem dX12_rack_70 : decode cX12_rack 70 = .ok (.iload_n 1, 1) := by decide +kernel
theorem dX12_rack_71 : decode cX12_rack 71 = .ok (.imul, 1) := by decide +kernel
theorem dX12_rack_72 : decode cX12_rack 72 = .ok (.iload 4, 2) := by decide +kernel
theorem dX12_rack_74 : decode cX12_rack 74 = .ok (.iadd, 1) := by decide +kernel
theorem dX12_rack_75 : decode cX12_rack 75 = .ok (.iconst 0, 1) := by decide +kernel
theorem dX12_rack_76 : decode cX12_rack 76 = .ok (.iastore, 1) := by decide +kernel
theorem dX12_rack_77 : decode cX12_rack 77 = .ok (.iinc 4 1, 3) := by decide +kernel
theorem dX12_rack_80 : decode cX12_rack 80 = .ok (.goto (-23), 3) := by decide +kernel
theorem dX12_rack_83 : decode cX12_rack 83 = .ok (.iload_n 3, 1) := by decide +kernel
theorem dX12_rack_84 : decode cX12_rack 84 = .ok (.ireturn, 1) := by decide +kernel
theorem dX12_keep_0 : decode cX12_keep 0 = .ok (.aload_n 0, 1) := by decide +kernel
theorem dX12_keep_1 : decode cX12_keep 1 = .ok (.iconst 0, 1) := by decide +kernel
theorem dX12_keep_2 : decode cX12_keep 2 = .ok (.putfield 139, 3) := by decide +kernel
theorem dX12_keep_5 : decode cX12_keep 5 = .ok (.iload_n 1, 1) := by decide +kernel
theorem dX12_keep_6 : decode cX12_keep 6 = .ok (.invokestatic 270, 3) := by decide +kernel
theorem dX12_keep_9 : decode cX12_keep 9 = .ok (.ifCond .ne 5, 3) := by decide +kernel
theorem dX12_keep_12 : decode cX12_keep 12 = .ok (.iconst (-1), 1) := by decide +kernel
theorem dX12_keep_13 : decode cX12_keep 13 = .ok (.ireturn, 1) := by decide +kernel
theorem dX12_keep_14 : decode cX12_keep 14 = .ok (.aload_n 0, 1) := by decide +kernel
theorem dX12_keep_15 : decode cX12_keep 15 = .ok (.getfield 124, 3) := by decide +kernel
theorem dX12_keep_18 : decode cX12_keep 18 = .ok (.iload_n 1, 1) := by decide +kernel
theorem dX12_keep_19 : decode cX12_keep 19 = .ok (.iconst 4, 1) := by decide +kernel
theorem dX12_keep_20 : decode cX12_keep 20 = .ok (.iastore, 1) := by decide +kernel
theorem dX12_keep_21 : decode cX12_keep 21 = .ok (.aload_n 0, 1) := by decide +kernel
theorem dX12_keep_22 : decode cX12_keep 22 = .ok (.getfield 127, 3) := by decide +kernel
theorem dX12_keep_25 : decode cX12_keep 25 = .ok (.iload_n 1, 1) := by decide +kernel
theorem dX12_keep_26 : decode cX12_keep 26 = .ok (.aload_n 0, 1) := by decide +kernel
theorem dX12_keep_27 : decode cX12_keep 27 = .ok (.getfield 7, 3) := by decide +kernel
theorem dX12_keep_30 : decode cX12_keep 30 = .ok (.iastore, 1) := by decide +kernel
theorem dX12_keep_31 : decode cX12_keep 31 = .ok (.aload_n 0, 1) := by decide +kernel
theorem dX12_keep_32 : decode cX12_keep 32 = .ok (.getfield 133, 3) := by decide +kernel
theorem dX12_keep_35 : decode cX12_keep 35 = .ok (.iload_n 1, 1) := by decide +kernel
theorem dX12_keep_36 : decode cX12_keep 36 = .ok (.aload_n 0, 1) := by decide +kernel
theorem dX12_keep_37 : decode cX12_keep 37 = .ok (.invokevirtual 205, 3) := by decide +kernel
theorem dX12_keep_40 : decode cX12_keep 40 = .ok (.iastore, 1) := by decide +kernel
theorem dX12_keep_41 : decode cX12_keep 41 = .ok (.iconst 0, 1) := by decide +kernel
theorem dX12_keep_42 : decode cX12_keep 42 = .ok (.istore_n 2, 1) := by decide +kernel
theorem dX12_keep_43 : decode cX12_keep 43 = .ok (.iload_n 2, 1) := by decide +kernel
theorem dX12_keep_44 : decode cX12_keep 44 = .ok (.aload_n 0, 1) := by decide +kernel
theorem dX12_keep_45 : decode cX12_keep 45 = .ok (.getfield 7, 3) := by decide +kernel
theorem dX12_keep_48 : decode cX12_keep 48 = .ok (.if_icmp .ge 26, 3) := by decide +kernel
theorem dX12_keep_51 : decode cX12_keep 51 = .ok (.aload_n 0, 1) := by decide +kernel
theorem dX12_keep_52 : decode cX12_keep 52 = .ok (.getfield 130, 3) := by decide +kernel
theorem dX12_keep_55 : decode cX12_keep 55 = .ok (.bipush 60, 2) := by decide +kernel
theorem dX12_keep_57 : decode cX12_keep 57 = .ok (.iload_n 1, 1) := by decide +kernel
theorem dX12_keep_58 : decode cX12_keep 58 = .ok (.imul, 1) := by decide +kernel
theorem dX12_keep_59 : decode cX12_keep 59 = .ok (.iload_n 2, 1) := by decide +kernel
theorem dX12_keep_60 : decode cX12_keep 60 = .ok (.iadd, 1) := by decide +kernel
theorem dX12_keep_61 : decode cX12_keep 61 = .ok (.aload_n 0, 1) := by decide +kernel
theorem dX12_keep_62 : decode cX12_keep 62 = .ok (.getfield 23, 3) := by decide +kernel
theorem dX12_keep_65 : decode cX12_keep 65 = .ok (.iload_n 2, 1) := by decide +kernel
theorem dX12_keep_66 : decode cX12_keep 66 = .ok (.iaload, 1) := by decide +kernel
theorem dX12_keep_67 : decode cX12_keep 67 = .ok (.iastore, 1) := by decide +kernel
theorem dX12_keep_68 : decode cX12_keep 68 = .ok (.iinc 2 1, 3) := by decide +kernel
theorem dX12_keep_71 : decode cX12_keep 71 = .ok (.goto (-28), 3) := by decide +kernel
theorem dX12_keep_74 : decode cX12_keep 74 = .ok (.aload_n 0, 1) := by decide +kernel
theorem dX12_keep_75 : decode cX12_keep 75 = .ok (.getfield 133, 3) := by decide +kernel
theorem dX12_keep_78 : decode cX12_keep 78 = .ok (.iload_n 1, 1) := by decide +kernel
theorem dX12_keep_79 : decode cX12_keep 79 = .ok (.iaload, 1) := by decide +kernel
theorem dX12_keep_80 : decode cX12_keep 80 = .ok (.ireturn, 1) := by decide +kernel
theorem dX12_clear_0 : decode cX12_clear 0 = .ok (.aload_n 0, 1) := by decide +kernel
theorem dX12_clear_1 : decode cX12_clear 1 = .ok (.iconst 0, 1) := by decide +kernel
theorem dX12_clear_2 : decode cX12_clear 2 = .ok (.putfield 139, 3) := by decide +kernel
theorem dX12_clear_5 : decode cX12_clear 5 = .ok (.iload_n 1, 1) := by decide +kernel
theorem dX12_clear_6 : decode cX12_clear 6 = .ok (.invokestatic 270, 3) := by decide +kernel
theorem dX12_clear_9 : decode cX12_clear 9 = .ok (.ifCond .ne 5, 3) := by decide +kernel
theorem dX12_clear_12 : decode cX12_clear 12 = .ok (.iconst (-1), 1) := by decide +kernel
theorem dX12_clear_13 : decode cX12_clear 13 = .ok (.ireturn, 1) := by decide +kernel
theorem dX12_clear_14 : decode cX12_clear 14 = .ok (.aload_n 0, 1) := by decide +kernel
theorem dX12_clear_15 : decode cX12_clear 15 = .ok (.getfield 124, 3) := by decide +kernel
theorem dX12_clear_18 : decode cX12_clear 18 = .ok (.iload_n 1, 1) := by decide +kernel
theorem dX12_clear_19 : decode cX12_clear 19 = .ok (.iaload, 1) := by decide +kernel
theorem dX12_clear_20 : decode cX12_clear 20 = .ok (.istore_n 2, 1) := by decide +kernel
theorem dX12_clear_21 : decode cX12_clear 21 = .ok (.aload_n 0, 1) := by decide +kernel
theorem dX12_clear_22 : decode cX12_clear 22 = .ok (.getfield 124, 3) := by decide +kernel
theorem dX12_clear_25 : decode cX12_clear 25 = .ok (.iload_n 1, 1) := by decide +kernel
theorem dX12_clear_26 : decode cX12_clear 26 = .ok (.iconst 0, 1) := by decide +kernel
theorem dX12_clear_27 : decode cX12_clear 27 = .ok (.iastore, 1) := by decide +kernel
theorem dX12_clear_28 : decode cX12_clear 28 = .ok (.iload_n 2, 1) := by decide +kernel
theorem dX12_clear_29 : decode cX12_clear 29 = .ok (.ireturn, 1) := by decide +kernel
theorem dX12_put_0 : decode cX12_put 0 = .ok (.aload_n 0, 1) := by decide +kernel
theorem dX12_put_1 : decode cX12_put 1 = .ok (.iconst 0, 1) := by decide +kernel
theorem dX12_put_2 : decode cX12_put 2 = .ok (.putfield 139, 3) := by decide +kernel
theorem dX12_put_5 : decode cX12_put 5 = .ok (.iload_n 1, 1) := by decide +kernel
theorem dX12_put_6 : decode cX12_put 6 = .ok (.invokestatic 270, 3) := by decide +kernel
theorem dX12_put_9 : decode cX12_put 9 = .ok (.ifCond .ne 5, 3) := by decide +kernel
theorem dX12_put_12 : decode cX12_put 12 = .ok (.iconst (-1), 1) := by decide +kernel
theorem dX12_put_13 : decode cX12_put 13 = .ok (.ireturn, 1) := by decide +kernel
theorem dX12_put_14 : decode cX12_put 14 = .ok (.aload_n 0, 1) := by decide +kernel
theorem dX12_put_15 : decode cX12_put 15 = .ok (.getfield 124, 3) := by decide +kernel
theorem dX12_put_18 : decode cX12_put 18 = .ok (.iload_n 1, 1) := by decide +kernel
theorem dX12_put_19 : decode cX12_put 19 = .ok (.iaload, 1) := by decide +kernel
theorem dX12_put_20 : decode cX12_put 20 = .ok (.ifCond .ne 10, 3) := by decide +kernel
theorem dX12_put_23 : decode cX12_put 23 = .ok (.aload_n 0, 1) := by decide +kernel
theorem dX12_put_24 : decode cX12_put 24 = .ok (.bipush (-11), 2) := by decide +kernel
theorem dX12_put_26 : decode cX12_put 26 = .ok (.invokevirtual 202, 3) := by decide +kernel
theorem dX12_put_29 : decode cX12_put 29 = .ok (.ireturn, 1) := by decide +kernel
theorem dX12_put_30 : decode cX12_put 30 = .ok (.aload_n 0, 1) := by decide +kernel
theorem dX12_put_31 : decode cX12_put 31 = .ok (.getfield 124, 3) := by decide +kernel
theorem dX12_put_34 : decode cX12_put 34 = .ok (.iload_n 1, 1) := by decide +kernel
theorem dX12_put_35 : decode cX12_put 35 = .ok (.iaload, 1) := by decide +kernel
theorem dX12_put_36 : decode cX12_put 36 = .ok (.iconst 4, 1) := by decide +kernel
theorem dX12_put_37 : decode cX12_put 37 = .ok (.if_icmp .ne 10, 3) := by decide +kernel
theorem dX12_put_40 : decode cX12_put 40 = .ok (.aload_n 0, 1) := by decide +kernel
theorem dX12_put_41 : decode cX12_put 41 = .ok (.bipush (-12), 2) := by decide +kernel
theorem dX12_put_43 : decode cX12_put 43 = .ok (.invokevirtual 202, 3) := by decide +kernel
theorem dX12_put_46 : decode cX12_put 46 = .ok (.ireturn, 1) := by decide +kernel
theorem dX12_put_47 : decode cX12_put 47 = .ok (.iload_n 2, 1) := by decide +kernel
theorem dX12_put_48 : decode cX12_put 48 = .ok (.iconst 0, 1) := by decide +kernel
theorem dX12_put_49 : decode cX12_put 49 = .ok (.aload_n 0, 1) := by decide +kernel
theorem dX12_put_50 : decode cX12_put 50 = .ok (.getfield 127, 3) := by decide +kernel
theorem dX12_put_53 : decode cX12_put 53 = .ok (.iload_n 1, 1) := by decide +kernel
theorem dX12_put_54 : decode cX12_put 54 = .ok (.iaload, 1) := by decide +kernel
theorem dX12_put_55 : decode cX12_put 55 = .ok (.iconst 1, 1) := by decide +kernel
theorem dX12_put_56 : decode cX12_put 56 = .ok (.isub, 1) := by decide +kernel
theorem dX12_put_57 : decode cX12_put 57 = .ok (.invokestatic 142, 3) := by decide +kernel
theorem dX12_put_60 : decode cX12_put 60 = .ok (.ifCond .ne 10, 3) := by decide +kernel
theorem dX12_put_63 : decode cX12_put 63 = .ok (.aload_n 0, 1) := by decide +kernel
theorem dX12_put_64 : decode cX12_put 64 = .ok (.bipush (-13), 2) := by decide +kernel
theorem dX12_put_66 : decode cX12_put 66 = .ok (.invokevirtual 202, 3) := by decide +kernel
theorem dX12_put_69 : decode cX12_put 69 = .ok (.ireturn, 1) := by decide +kernel
theorem dX12_put_70 : decode cX12_put 70 = .ok (.aload_n 0, 1) := by decide +kernel
theorem dX12_put_71 : decode cX12_put 71 = .ok (.getfield 130, 3) := by decide +kernel
theorem dX12_put_74 : decode cX12_put 74 = .ok (.bipush 60, 2) := by decide +kernel
theorem dX12_put_76 : decode cX12_put 76 = .ok (.iload_n 1, 1) := by decide +kernel
theorem dX12_put_77 : decode cX12_put 77 = .ok (.imul, 1) := by decide +kernel
theorem dX12_put_78 : decode cX12_put 78 = .ok (.iload_n 2, 1) := by decide +kernel
theorem dX12_put_79 : decode cX12_put 79 = .ok (.iadd, 1) := by decide +kernel
theorem dX12_put_80 : decode cX12_put 80 = .ok (.iaload, 1) := by decide +kernel
theorem dX12_put_81 : decode cX12_put 81 = .ok (.istore 4, 2) := by decide +kernel
theorem dX12_put_83 : decode cX12_put 83 = .ok (.aload_n 0, 1) := by decide +kernel
theorem dX12_put_84 : decode cX12_put 84 = .ok (.getfield 130, 3) := by decide +kernel
theorem dX12_put_87 : decode cX12_put 87 = .ok (.bipush 60, 2) := by decide +kernel
theorem dX12_put_89 : decode cX12_put 89 = .ok (.iload_n 1, 1) := by decide +kernel
theorem dX12_put_90 : decode cX12_put 90 = .ok (.imul, 1) := by decide +kernel
theorem dX12_put_91 : decode cX12_put 91 = .ok (.iload_n 2, 1) := by decide +kernel
theorem dX12_put_92 : decode cX12_put 92 = .ok (.iadd, 1) := by decide +kernel
theorem dX12_put_93 : decode cX12_put 93 = .ok (.aload_n 0, 1) := by decide +kernel
theorem dX12_put_94 : decode cX12_put 94 = .ok (.getfield 124, 3) := by decide +kernel
theorem dX12_put_97 : decode cX12_put 97 = .ok (.iload_n 1, 1) := by decide +kernel
theorem dX12_put_98 : decode cX12_put 98 = .ok (.iaload, 1) := by decide +kernel
theorem dX12_put_99 : decode cX12_put 99 = .ok (.iload_n 3, 1) := by decide +kernel
theorem dX12_put_100 : decode cX12_put 100 = .ok (.invokestatic 273, 3) := by decide +kernel
theorem dX12_put_103 : decode cX12_put 103 = .ok (.iastore, 1) := by decide +kernel
theorem dX12_put_104 : decode cX12_put 104 = .ok (.iload 4, 2) := by decide +kernel
theorem dX12_put_106 : decode cX12_put 106 = .ok (.ireturn, 1) := by decide +kernel
theorem dX12_at_0 : decode cX12_at 0 = .ok (.aload_n 0, 1) := by decide +kernel
theorem dX12_at_1 : decode cX12_at 1 = .ok (.iload_n 1, 1) := by decide +kernel
theorem dX12_at_2 : decode cX12_at 2 = .ok (.invokestatic 270, 3) := by decide +kernel
theorem dX12_at_5 : decode cX12_at 5 = .ok (.ifCond .ne 7, 3) := by decide +kernel
theorem dX12_at_8 : decode cX12_at 8 = .ok (.iconst 1, 1) := by decide +kernel
theorem dX12_at_9 : decode cX12_at 9 = .ok (.goto 43, 3) := by decide +kernel
theorem dX12_at_12 : decode cX12_at 12 = .ok (.aload_n 0, 1) := by decide +kernel
theorem dX12_at_13 : decode cX12_at 13 = .ok (.getfield 124, 3) := by decide +kernel
theorem dX12_at_16 : decode cX12_at 16 = .ok (.iload_n 1, 1) := by decide +kernel
theorem dX12_at_17 : decode cX12_at 17 = .ok (.iaload, 1) := by decide +kernel
theorem dX12_at_18 : decode cX12_at 18 = .ok (.ifCond .eq 29, 3) := by decide +kernel
theorem dX12_at_21 : decode cX12_at 21 = .ok (.aload_n 0, 1) := by decide +kernel
theorem dX12_at_22 : decode cX12_at 22 = .ok (.getfield 124, 3) := by decide +kernel
theorem dX12_at_25 : decode cX12_at 25 = .ok (.iload_n 1, 1) := by decide +kernel
theorem dX12_at_26 : decode cX12_at 26 = .ok (.iaload, 1) := by decide +kernel
theorem dX12_at_27 : decode cX12_at 27 = .ok (.iconst 4, 1) := by decide +kernel
theorem dX12_at_28 : decode cX12_at 28 = .ok (.if_icmp .eq 19, 3) := by decide +kernel
theorem dX12_at_31 : decode cX12_at 31 = .ok (.iload_n 2, 1) := by decide +kernel
theorem dX12_at_32 : decode cX12_at 32 = .ok (.iconst 0, 1) := by decide +kernel
theorem dX12_at_33 : decode cX12_at 33 = .ok (.aload_n 0, 1) := by decide +kernel
theorem dX12_at_34 : decode cX12_at 34 = .ok (.getfield 127, 3) := by decide +kernel
theorem dX12_at_37 : decode cX12_at 37 = .ok (.iload_n 1, 1) := by decide +kernel
theorem dX12_at_38 : decode cX12_at 38 = .ok (.iaload, 1) := by decide +kernel
theorem dX12_at_39 : decode cX12_at 39 = .ok (.iconst 1, 1) := by decide +kernel
theorem dX12_at_40 : decode cX12_at 40 = .ok (.isub, 1) := by decide +kernel
theorem dX12_at_41 : decode cX12_at 41 = .ok (.invokestatic 142, 3) := by decide +kernel
theorem dX12_at_44 : decode cX12_at 44 = .ok (.ifCond .ne 7, 3) := by decide +kernel
theorem dX12_at_47 : decode cX12_at 47 = .ok (.iconst 2, 1) := by decide +kernel
theorem dX12_at_48 : decode cX12_at 48 = .ok (.goto 4, 3) := by decide +kernel
theorem dX12_at_51 : decode cX12_at 51 = .ok (.iconst 0, 1) := by decide +kernel
theorem dX12_at_52 : decode cX12_at 52 = .ok (.putfield 139, 3) := by decide +kernel
theorem dX12_at_55 : decode cX12_at 55 = .ok (.aload_n 0, 1) := by decide +kernel
theorem dX12_at_56 : decode cX12_at 56 = .ok (.getfield 139, 3) := by decide +kernel
theorem dX12_at_59 : decode cX12_at 59 = .ok (.ifCond .ne 17, 3) := by decide +kernel
theorem dX12_at_62 : decode cX12_at 62 = .ok (.aload_n 0, 1) := by decide +kernel
theorem dX12_at_63 : decode cX12_at 63 = .ok (.getfield 130, 3) := by decide +kernel
theorem dX12_at_66 : decode cX12_at 66 = .ok (.bipush 60, 2) := by decide +kernel
theorem dX12_at_68 : decode cX12_at 68 = .ok (.iload_n 1, 1) := by decide +kernel
theorem dX12_at_69 : decode cX12_at 69 = .ok (.imul, 1) := by decide +kernel
theorem dX12_at_70 : decode cX12_at 70 = .ok (.iload_n 2, 1) := by decide +kernel
theorem dX12_at_71 : decode cX12_at 71 = .ok (.iadd, 1) := by decide +kernel
theorem dX12_at_72 : decode cX12_at 72 = .ok (.iaload, 1) := by decide +kernel
theorem dX12_at_73 : decode cX12_at 73 = .ok (.goto 4, 3) := by decide +kernel
theorem dX12_at_76 : decode cX12_at 76 = .ok (.iconst 0, 1) := by decide +kernel
theorem dX12_at_77 : decode cX12_at 77 = .ok (.ireturn, 1) := by decide +kernel
theorem dX12_copy_0 : decode cX12_copy 0 = .ok (.aload_n 0, 1) := by decide +kernel
theorem dX12_copy_1 : decode cX12_copy 1 = .ok (.iconst 0, 1) := by decide +kernel
theorem dX12_copy_2 : decode cX12_copy 2 = .ok (.putfield 139, 3) := by decide +kernel
theorem dX12_copy_5 : decode cX12_copy 5 = .ok (.iload_n 1, 1) := by decide +kernel
theorem dX12_copy_6 : decode cX12_copy 6 = .ok (.invokestatic 270, 3) := by decide +kernel
theorem dX12_copy_9 : decode cX12_copy 9 = .ok (.ifCond .eq 10, 3) := by decide +kernel
theorem dX12_copy_12 : decode cX12_copy 12 = .ok (.iload_n 3, 1) := by decide +kernel
theorem dX12_copy_13 : decode cX12_copy 13 = .ok (.invokestatic 270, 3) := by decide +kernel
theorem dX12_copy_16 : decode cX12_copy 16 = .ok (.ifCond .ne 5, 3) := by decide +kernel
theorem dX12_copy_19 : decode cX12_copy 19 = .ok (.iconst (-1), 1) := by decide +kernel
theorem dX12_copy_20 : decode cX12_copy 20 = .ok (.ireturn, 1) := by decide +kernel
theorem dX12_copy_21 : decode cX12_copy 21 = .ok (.aload_n 0, 1) := by decide +kernel
theorem dX12_copy_22 : decode cX12_copy 22 = .ok (.getfield 124, 3) := by decide +kernel
theorem dX12_copy_25 : decode cX12_copy 25 = .ok (.iload_n 1, 1) := by decide +kernel
theorem dX12_copy_26 : decode cX12_copy 26 = .ok (.iaload, 1) := by decide +kernel
theorem dX12_copy_27 : decode cX12_copy 27 = .ok (.ifCond .eq 12, 3) := by decide +kernel
theorem dX12_copy_30 : decode cX12_copy 30 = .ok (.aload_n 0, 1) := by decide +kernel
theorem dX12_copy_31 : decode cX12_copy 31 = .ok (.getfield 124, 3) := by decide +kernel
theorem dX12_copy_34 : decode cX12_copy 34 = .ok (.iload_n 3, 1) := by decide +kernel
theorem dX12_copy_35 : decode cX12_copy 35 = .ok (.iaload, 1) := by decide +kernel
theorem dX12_copy_36 : decode cX12_copy 36 = .ok (.ifCond .ne 10, 3) := by decide +kernel
theorem dX12_copy_39 : decode cX12_copy 39 = .ok (.aload_n 0, 1) := by decide +kernel
theorem dX12_copy_40 : decode cX12_copy 40 = .ok (.bipush (-11), 2) := by decide +kernel
theorem dX12_copy_42 : decode cX12_copy 42 = .ok (.invokevirtual 202, 3) := by decide +kernel
theorem dX12_copy_45 : decode cX12_copy 45 = .ok (.ireturn, 1) := by decide +kernel
theorem dX12_copy_46 : decode cX12_copy 46 = .ok (.aload_n 0, 1) := by decide +kernel
theorem dX12_copy_47 : decode cX12_copy 47 = .ok (.getfield 124, 3) := by decide +kernel
theorem dX12_copy_50 : decode cX12_copy 50 = .ok (.iload_n 1, 1) := by decide +kernel
theorem dX12_copy_51 : decode cX12_copy 51 = .ok (.iaload, 1) := by decide +kernel
theorem dX12_copy_52 : decode cX12_copy 52 = .ok (.iconst 4, 1) := by decide +kernel
theorem dX12_copy_53 : decode cX12_copy 53 = .ok (.if_icmp .eq 18, 3) := by decide +kernel
theorem dX12_copy_56 : decode cX12_copy 56 = .ok (.aload_n 0, 1) := by decide +kernel
theorem dX12_copy_57 : decode cX12_copy 57 = .ok (.getfield 124, 3) := by decide +kernel
theorem dX12_copy_60 : decode cX12_copy 60 = .ok (.iload_n 1, 1) := by decide +kernel
theorem dX12_copy_61 : decode cX12_copy 61 = .ok (.iaload, 1) := by decide +kernel
theorem dX12_copy_62 : decode cX12_copy 62 = .ok (.aload_n 0, 1) := by decide +kernel
theorem dX12_copy_63 : decode cX12_copy 63 = .ok (.getfield 124, 3) := by decide +kernel
theorem dX12_copy_66 : decode cX12_copy 66 = .ok (.iload_n 3, 1) := by decide +kernel
theorem dX12_copy_67 : decode cX12_copy 67 = .ok (.iaload, 1) := by decide +kernel
theorem dX12_copy_68 : decode cX12_copy 68 = .ok (.if_icmp .eq 10, 3) := by decide +kernel
theorem dX12_copy_71 : decode cX12_copy 71 = .ok (.aload_n 0, 1) := by decide +kernel
theorem dX12_copy_72 : decode cX12_copy 72 = .ok (.bipush (-12), 2) := by decide +kernel
theorem dX12_copy_74 : decode cX12_copy 74 = .ok (.invokevirtual 202, 3) := by decide +kernel
theorem dX12_copy_77 : decode cX12_copy 77 = .ok (.ireturn, 1) := by decide +kernel
theorem dX12_copy_78 : decode cX12_copy 78 = .ok (.iload 5, 2) := by decide +kernel
theorem dX12_copy_80 : decode cX12_copy 80 = .ok (.ifCond .lt 47, 3) := by decide +kernel
theorem dX12_copy_83 : decode cX12_copy 83 = .ok (.iload_n 2, 1) := by decide +kernel
theorem dX12_copy_84 : decode cX12_copy 84 = .ok (.ifCond .lt 43, 3) := by decide +kernel
theorem dX12_copy_87 : decode cX12_copy 87 = .ok (.iload 4, 2) := by decide +kernel
theorem dX12_copy_89 : decode cX12_copy 89 = .ok (.ifCond .lt 38, 3) := by decide +kernel
theorem dX12_copy_92 : decode cX12_copy 92 = .ok (.iload_n 2, 1) := by decide +kernel
theorem dX12_copy_93 : decode cX12_copy 93 = .ok (.i2l, 1) := by decide +kernel
theorem dX12_copy_94 : decode cX12_copy 94 = .ok (.iload 5, 2) := by decide +kernel
theorem dX12_copy_96 : decode cX12_copy 96 = .ok (.i2l, 1) := by decide +kernel
theorem dX12_copy_97 : decode cX12_copy 97 = .ok (.ladd, 1) := by decide +kernel
theorem dX12_copy_98 : decode cX12_copy 98 = .ok (.aload_n 0, 1) := by decide +kernel
theorem dX12_copy_99 : decode cX12_copy 99 = .ok (.getfield 127, 3) := by decide +kernel
theorem dX12_copy_102 : decode cX12_copy 102 = .ok (.iload_n 1, 1) := by decide +kernel
theorem dX12_copy_103 : decode cX12_copy 103 = .ok (.iaload, 1) := by decide +kernel
theorem dX12_copy_104 : decode cX12_copy 104 = .ok (.i2l, 1) := by decide +kernel
theorem dX12_copy_105 : decode cX12_copy 105 = .ok (.lcmp, 1) := by decide +kernel
theorem dX12_copy_106 : decode cX12_copy 106 = .ok (.ifCond .gt 21, 3) := by decide +kernel
theorem dX12_copy_109 : decode cX12_copy 109 = .ok (.iload 4, 2) := by decide +kernel
theorem dX12_copy_111 : decode cX12_copy 111 = .ok (.i2l, 1) := by decide +kernel
theorem dX12_copy_112 : decode cX12_copy 112 = .ok (.iload 5, 2) := by decide +kernel
theorem dX12_copy_114 : decode cX12_copy 114 = .ok (.i2l, 1) := by decide +kernel
theorem dX12_copy_115 : decode cX12_copy 115 = .ok (.ladd, 1) := by decide +kernel
theorem dX12_copy_116 : decode cX12_copy 116 = .ok (.aload_n 0, 1) := by decide +kernel
theorem dX12_copy_117 : decode cX12_copy 117 = .ok (.getfield 127, 3) := by decide +kernel
theorem dX12_copy_120 : decode cX12_copy 120 = .ok (.iload_n 3, 1) := by decide +kernel
theorem dX12_copy_121 : decode cX12_copy 121 = .ok (.iaload, 1) := by decide +kernel
theorem dX12_copy_122 : decode cX12_copy 122 = .ok (.i2l, 1) := by decide +kernel
theorem dX12_copy_123 : decode cX12_copy 123 = .ok (.lcmp, 1) := by decide +kernel
theorem dX12_copy_124 : decode cX12_copy 124 = .ok (.ifCond .le 10, 3) := by decide +kernel
theorem dX12_copy_127 : decode cX12_copy 127 = .ok (.aload_n 0, 1) := by decide +kernel
theorem dX12_copy_128 : decode cX12_copy 128 = .ok (.bipush (-13), 2) := by decide +kernel
theorem dX12_copy_130 : decode cX12_copy 130 = .ok (.invokevirtual 202, 3) := by decide +kernel
theorem dX12_copy_133 : decode cX12_copy 133 = .ok (.ireturn, 1) := by decide +kernel
theorem dX12_copy_134 : decode cX12_copy 134 = .ok (.iconst 0, 1) := by decide +kernel
theorem dX12_copy_135 : decode cX12_copy 135 = .ok (.istore 6, 2) := by decide +kernel
theorem dX12_copy_137 : decode cX12_copy 137 = .ok (.iload 6, 2) := by decide +kernel
theorem dX12_copy_139 : decode cX12_copy 139 = .ok (.iload 5, 2) := by decide +kernel
theorem dX12_copy_141 : decode cX12_copy 141 = .ok (.if_icmp .ge 30, 3) := by decide +kernel
theorem dX12_copy_144 : decode cX12_copy 144 = .ok (.aload_n 0, 1) := by decide +kernel
theorem dX12_copy_145 : decode cX12_copy 145 = .ok (.getfield 136, 3) := by decide +kernel
theorem dX12_copy_148 : decode cX12_copy 148 = .ok (.iload 6, 2) := by decide +kernel
theorem dX12_copy_150 : decode cX12_copy 150 = .ok (.aload_n 0, 1) := by decide +kernel
theorem dX12_copy_151 : decode cX12_copy 151 = .ok (.getfield 130, 3) := by decide +kernel
theorem dX12_copy_154 : decode cX12_copy 154 = .ok (.bipush 60, 2) := by decide +kernel
theorem dX12_copy_156 : decode cX12_copy 156 = .ok (.iload_n 1, 1) := by decide +kernel
theorem dX12_copy_157 : decode cX12_copy 157 = .ok (.imul, 1) := by decide +kernel
theorem dX12_copy_158 : decode cX12_copy 158 = .ok (.iload_n 2, 1) := by decide +kernel
theorem dX12_copy_159 : decode cX12_copy 159 = .ok (.iadd, 1) := by decide +kernel
theorem dX12_copy_160 : decode cX12_copy 160 = .ok (.iload 6, 2) := by decide +kernel
theorem dX12_copy_162 : decode cX12_copy 162 = .ok (.iadd, 1) := by decide +kernel
theorem dX12_copy_163 : decode cX12_copy 163 = .ok (.iaload, 1) := by decide +kernel
theorem dX12_copy_164 : decode cX12_copy 164 = .ok (.iastore, 1) := by decide +kernel
theorem dX12_copy_165 : decode cX12_copy 165 = .ok (.iinc 6 1, 3) := by decide +kernel
theorem dX12_copy_168 : decode cX12_copy 168 = .ok (.goto (-31), 3) := by decide +kernel
theorem dX12_copy_171 : decode cX12_copy 171 = .ok (.iconst 0, 1) := by decide +kernel
theorem dX12_copy_172 : decode cX12_copy 172 = .ok (.istore 6, 2) := by decide +kernel
theorem dX12_copy_174 : decode cX12_copy 174 = .ok (.iload 6, 2) := by decide +kernel
theorem dX12_copy_176 : decode cX12_copy 176 = .ok (.iload 5, 2) := by decide +kernel
theorem dX12_copy_178 : decode cX12_copy 178 = .ok (.if_icmp .ge 31, 3) := by decide +kernel
theorem dX12_copy_181 : decode cX12_copy 181 = .ok (.aload_n 0, 1) := by decide +kernel
theorem dX12_copy_182 : decode cX12_copy 182 = .ok (.getfield 130, 3) := by decide +kernel
theorem dX12_copy_185 : decode cX12_copy 185 = .ok (.bipush 60, 2) := by decide +kernel
theorem dX12_copy_187 : decode cX12_copy 187 = .ok (.iload_n 3, 1) := by decide +kernel
theorem dX12_copy_188 : decode cX12_copy 188 = .ok (.imul, 1) := by decide +kernel
theorem dX12_copy_189 : decode cX12_copy 189 = .ok (.iload 4, 2) := by decide +kernel
theorem dX12_copy_191 : decode cX12_copy 191 = .ok (.iadd, 1) := by decide +kernel
theorem dX12_copy_192 : decode cX12_copy 192 = .ok (.iload 6, 2) := by decide +kernel
theorem dX12_copy_194 : decode cX12_copy 194 = .ok (.iadd, 1) := by decide +kernel
theorem dX12_copy_195 : decode cX12_copy 195 = .ok (.aload_n 0, 1) := by decide +kernel
theorem dX12_copy_196 : decode cX12_copy 196 = .ok (.getfield 136, 3) := by decide +kernel
theorem dX12_copy_199 : decode cX12_copy 199 = .ok (.iload 6, 2) := by decide +kernel
theorem dX12_copy_201 : decode cX12_copy 201 = .ok (.iaload, 1) := by decide +kernel
theorem dX12_copy_202 : decode cX12_copy 202 = .ok (.iastore, 1) := by decide +kernel
theorem dX12_copy_203 : decode cX12_copy 203 = .ok (.iinc 6 1, 3) := by decide +kernel
theorem dX12_copy_206 : decode cX12_copy 206 = .ok (.goto (-32), 3) := by decide +kernel
theorem dX12_copy_209 : decode cX12_copy 209 = .ok (.iload 5, 2) := by decide +kernel
theorem dX12_copy_211 : decode cX12_copy 211 = .ok (.ireturn, 1) := by decide +kernel
theorem dX12_take_0 : decode cX12_take 0 = .ok (.aload_n 0, 1) := by decide +kernel
theorem dX12_take_1 : decode cX12_take 1 = .ok (.iconst 0, 1) := by decide +kernel
theorem dX12_take_2 : decode cX12_take 2 = .ok (.putfield 139, 3) := by decide +kernel
theorem dX12_take_5 : decode cX12_take 5 = .ok (.iload_n 1, 1) := by decide +kernel
theorem dX12_take_6 : decode cX12_take 6 = .ok (.invokestatic 270, 3) := by decide +kernel
theorem dX12_take_9 : decode cX12_take 9 = .ok (.ifCond .ne 5, 3) := by decide +kernel
theorem dX12_take_12 : decode cX12_take 12 = .ok (.iconst (-1), 1) := by decide +kernel
theorem dX12_take_13 : decode cX12_take 13 = .ok (.ireturn, 1) := by decide +kernel
theorem dX12_take_14 : decode cX12_take 14 = .ok (.aload_n 0, 1) := by decide +kernel
theorem dX12_take_15 : decode cX12_take 15 = .ok (.getfield 124, 3) := by decide +kernel
theorem dX12_take_18 : decode cX12_take 18 = .ok (.iload_n 1, 1) := by decide +kernel
theorem dX12_take_19 : decode cX12_take 19 = .ok (.iaload, 1) := by decide +kernel
theorem dX12_take_20 : decode cX12_take 20 = .ok (.ifCond .ne 10, 3) := by decide +kernel
theorem dX12_take_23 : decode cX12_take 23 = .ok (.aload_n 0, 1) := by decide +kernel
theorem dX12_take_24 : decode cX12_take 24 = .ok (.bipush (-11), 2) := by decide +kernel
theorem dX12_take_26 : decode cX12_take 26 = .ok (.invokevirtual 202, 3) := by decide +kernel
theorem dX12_take_29 : decode cX12_take 29 = .ok (.ireturn, 1) := by decide +kernel
theorem dX12_take_30 : decode cX12_take 30 = .ok (.aload_n 0, 1) := by decide +kernel
theorem dX12_take_31 : decode cX12_take 31 = .ok (.getfield 124, 3) := by decide +kernel
theorem dX12_take_34 : decode cX12_take 34 = .ok (.iload_n 1, 1) := by decide +kernel
theorem dX12_take_35 : decode cX12_take 35 = .ok (.iaload, 1) := by decide +kernel
theorem dX12_take_36 : decode cX12_take 36 = .ok (.iconst 4, 1) := by decide +kernel
theorem dX12_take_37 : decode cX12_take 37 = .ok (.if_icmp .ne 10, 3) := by decide +kernel
theorem dX12_take_40 : decode cX12_take 40 = .ok (.aload_n 0, 1) := by decide +kernel
theorem dX12_take_41 : decode cX12_take 41 = .ok (.bipush (-12), 2) := by decide +kernel
theorem dX12_take_43 : decode cX12_take 43 = .ok (.invokevirtual 202, 3) := by decide +kernel
theorem dX12_take_46 : decode cX12_take 46 = .ok (.ireturn, 1) := by decide +kernel
theorem dX12_take_47 : decode cX12_take 47 = .ok (.iload_n 2, 1) := by decide +kernel
theorem dX12_take_48 : decode cX12_take 48 = .ok (.ifCond .lt 22, 3) := by decide +kernel
theorem dX12_take_51 : decode cX12_take 51 = .ok (.iload_n 2, 1) := by decide +kernel
theorem dX12_take_52 : decode cX12_take 52 = .ok (.i2l, 1) := by decide +kernel
theorem dX12_take_53 : decode cX12_take 53 = .ok (.aload_n 0, 1) := by decide +kernel
theorem dX12_take_54 : decode cX12_take 54 = .ok (.getfield 7, 3) := by decide +kernel
theorem dX12_take_57 : decode cX12_take 57 = .ok (.i2l, 1) := by decide +kernel
theorem dX12_take_58 : decode cX12_take 58 = .ok (.ladd, 1) := by decide +kernel
theorem dX12_take_59 : decode cX12_take 59 = .ok (.aload_n 0, 1) := by decide +kernel
theorem dX12_take_60 : decode cX12_take 60 = .ok (.getfield 127, 3) := by decide +kernel
theorem dX12_take_63 : decode cX12_take 63 = .ok (.iload_n 1, 1) := by decide +kernel
theorem dX12_take_64 : decode cX12_take 64 = .ok (.iaload, 1) := by decide +kernel
theorem dX12_take_65 : decode cX12_take 65 = .ok (.i2l, 1) := by decide +kernel
theorem dX12_take_66 : decode cX12_take 66 = .ok (.lcmp, 1) := by decide +kernel
theorem dX12_take_67 : decode cX12_take 67 = .ok (.ifCond .le 10, 3) := by decide +kernel
theorem dX12_take_70 : decode cX12_take 70 = .ok (.aload_n 0, 1) := by decide +kernel
theorem dX12_take_71 : decode cX12_take 71 = .ok (.bipush (-13), 2) := by decide +kernel
theorem dX12_take_73 : decode cX12_take 73 = .ok (.invokevirtual 202, 3) := by decide +kernel
theorem dX12_take_76 : decode cX12_take 76 = .ok (.ireturn, 1) := by decide +kernel
theorem dX12_take_77 : decode cX12_take 77 = .ok (.aload_n 0, 1) := by decide +kernel
theorem dX12_take_78 : decode cX12_take 78 = .ok (.getfield 124, 3) := by decide +kernel
theorem dX12_take_81 : decode cX12_take 81 = .ok (.iload_n 1, 1) := by decide +kernel
theorem dX12_take_82 : decode cX12_take 82 = .ok (.iaload, 1) := by decide +kernel
theorem dX12_take_83 : decode cX12_take 83 = .ok (.iconst 2, 1) := by decide +kernel
theorem dX12_take_84 : decode cX12_take 84 = .ok (.if_icmp .ne 9, 3) := by decide +kernel
theorem dX12_take_87 : decode cX12_take 87 = .ok (.ldc_w 269, 3) := by decide +kernel
theorem dX12_take_90 : decode cX12_take 90 = .ok (.goto 4, 3) := by decide +kernel
theorem dX12_take_93 : decode cX12_take 93 = .ok (.iconst (-1), 1) := by decide +kernel
theorem dX12_take_94 : decode cX12_take 94 = .ok (.istore_n 3, 1) := by decide +kernel
theorem dX12_take_95 : decode cX12_take 95 = .ok (.iconst 0, 1) := by decide +kernel
theorem dX12_take_96 : decode cX12_take 96 = .ok (.istore 4, 2) := by decide +kernel
theorem dX12_take_98 : decode cX12_take 98 = .ok (.iload 4, 2) := by decide +kernel
theorem dX12_take_100 : decode cX12_take 100 = .ok (.aload_n 0, 1) := by decide +kernel
theorem dX12_take_101 : decode cX12_take 101 = .ok (.getfield 7, 3) := by decide +kernel
theorem dX12_take_104 : decode cX12_take 104 = .ok (.if_icmp .ge 49, 3) := by decide +kernel
theorem dX12_take_107 : decode cX12_take 107 = .ok (.aload_n 0, 1) := by decide +kernel
theorem dX12_take_108 : decode cX12_take 108 = .ok (.getfield 130, 3) := by decide +kernel
theorem dX12_take_111 : decode cX12_take 111 = .ok (.bipush 60, 2) := by decide +kernel
theorem dX12_take_113 : decode cX12_take 113 = .ok (.iload_n 1, 1) := by decide +kernel
theorem dX12_take_114 : decode cX12_take 114 = .ok (.imul, 1) := by decide +kernel
theorem dX12_take_115 : decode cX12_take 115 = .ok (.iload_n 2, 1) := by decide +kernel
theorem dX12_take_116 : decode cX12_take 116 = .ok (.iadd, 1) := by decide +kernel
theorem dX12_take_117 : decode cX12_take 117 = .ok (.iload 4, 2) := by decide +kernel
theorem dX12_take_119 : decode cX12_take 119 = .ok (.iadd, 1) := by decide +kernel
theorem dX12_take_120 : decode cX12_take 120 = .ok (.iaload, 1) := by decide +kernel
theorem dX12_take_121 : decode cX12_take 121 = .ok (.istore 5, 2) := by decide +kernel
theorem dX12_take_123 : decode cX12_take 123 = .ok (.iload 5, 2) := by decide +kernel
theorem dX12_take_125 : decode cX12_take 125 = .ok (.iload_n 3, 1) := by decide +kernel
theorem dX12_take_126 : decode cX12_take 126 = .ok (.if_icmp .eq 21, 3) := by decide +kernel
theorem dX12_take_129 : decode cX12_take 129 = .ok (.iload 5, 2) := by decide +kernel
theorem dX12_take_131 : decode cX12_take 131 = .ok (.iconst 0, 1) := by decide +kernel
theorem dX12_take_132 : decode cX12_take 132 = .ok (.aload_n 0, 1) := by decide +kernel
theorem dX12_take_133 : decode cX12_take 133 = .ok (.getfield 13, 3) := by decide +kernel
theorem dX12_take_136 : decode cX12_take 136 = .ok (.iconst 1, 1) := by decide +kernel
theorem dX12_take_137 : decode cX12_take 137 = .ok (.isub, 1) := by decide +kernel
theorem dX12_take_138 : decode cX12_take 138 = .ok (.invokestatic 142, 3) := by decide +kernel
theorem dX12_take_141 : decode cX12_take 141 = .ok (.ifCond .ne 6, 3) := by decide +kernel
theorem dX12_take_144 : decode cX12_take 144 = .ok (.bipush (-16), 2) := by decide +kernel
theorem dX12_take_146 : decode cX12_take 146 = .ok (.ireturn, 1) := by decide +kernel
theorem dX12_take_147 : decode cX12_take 147 = .ok (.iinc 4 1, 3) := by decide +kernel
theorem dX12_take_150 : decode cX12_take 150 = .ok (.goto (-52), 3) := by decide +kernel
theorem dX12_take_153 : decode cX12_take 153 = .ok (.iconst 0, 1) := by decide +kernel
theorem dX12_take_154 : decode cX12_take 154 = .ok (.istore 4, 2) := by decide +kernel
theorem dX12_take_156 : decode cX12_take 156 = .ok (.iload 4, 2) := by decide +kernel
theorem dX12_take_158 : decode cX12_take 158 = .ok (.aload_n 0, 1) := by decide +kernel
theorem dX12_take_159 : decode cX12_take 159 = .ok (.getfield 7, 3) := by decide +kernel
theorem dX12_take_162 : decode cX12_take 162 = .ok (.if_icmp .ge 44, 3) := by decide +kernel
theorem dX12_take_165 : decode cX12_take 165 = .ok (.aload_n 0, 1) := by decide +kernel
theorem dX12_take_166 : decode cX12_take 166 = .ok (.getfield 130, 3) := by decide +kernel
theorem dX12_take_169 : decode cX12_take 169 = .ok (.bipush 60, 2) := by decide +kernel
theorem dX12_take_171 : decode cX12_take 171 = .ok (.iload_n 1, 1) := by decide +kernel
theorem dX12_take_172 : decode cX12_take 172 = .ok (.imul, 1) := by decide +kernel
theorem dX12_take_173 : decode cX12_take 173 = .ok (.iload_n 2, 1) := by decide +kernel
theorem dX12_take_174 : decode cX12_take 174 = .ok (.iadd, 1) := by decide +kernel
theorem dX12_take_175 : decode cX12_take 175 = .ok (.iload 4, 2) := by decide +kernel
theorem dX12_take_177 : decode cX12_take 177 = .ok (.iadd, 1) := by decide +kernel
theorem dX12_take_178 : decode cX12_take 178 = .ok (.iaload, 1) := by decide +kernel
theorem dX12_take_179 : decode cX12_take 179 = .ok (.istore 5, 2) := by decide +kernel
theorem dX12_take_181 : decode cX12_take 181 = .ok (.aload_n 0, 1) := by decide +kernel
theorem dX12_take_182 : decode cX12_take 182 = .ok (.getfield 23, 3) := by decide +kernel
theorem dX12_take_185 : decode cX12_take 185 = .ok (.iload 4, 2) := by decide +kernel
theorem dX12_take_187 : decode cX12_take 187 = .ok (.iload 5, 2) := by decide +kernel
theorem dX12_take_189 : decode cX12_take 189 = .ok (.iload_n 3, 1) := by decide +kernel
theorem dX12_take_190 : decode cX12_take 190 = .ok (.if_icmp .ne 7, 3) := by decide +kernel
theorem dX12_take_193 : decode cX12_take 193 = .ok (.iconst (-1), 1) := by decide +kernel
theorem dX12_take_194 : decode cX12_take 194 = .ok (.goto 5, 3) := by decide +kernel
theorem dX12_take_197 : decode cX12_take 197 = .ok (.iload 5, 2) := by decide +kernel
theorem dX12_take_199 : decode cX12_take 199 = .ok (.iastore, 1) := by decide +kernel
theorem dX12_take_200 : decode cX12_take 200 = .ok (.iinc 4 1, 3) := by decide +kernel
theorem dX12_take_203 : decode cX12_take 203 = .ok (.goto (-47), 3) := by decide +kernel
theorem dX12_take_206 : decode cX12_take 206 = .ok (.aload_n 0, 1) := by decide +kernel
theorem dX12_take_207 : decode cX12_take 207 = .ok (.invokevirtual 205, 3) := by decide +kernel
theorem dX12_take_210 : decode cX12_take 210 = .ok (.ireturn, 1) := by decide +kernel
theorem dX12_pegs_0 : decode cX12_pegs 0 = .ok (.iconst 0, 1) := by decide +kernel
theorem dX12_pegs_1 : decode cX12_pegs 1 = .ok (.istore_n 2, 1) := by decide +kernel
theorem dX12_pegs_2 : decode cX12_pegs 2 = .ok (.iconst 0, 1) := by decide +kernel
theorem dX12_pegs_3 : decode cX12_pegs 3 = .ok (.istore_n 3, 1) := by decide +kernel
theorem dX12_pegs_4 : decode cX12_pegs 4 = .ok (.iload_n 3, 1) := by decide +kernel
theorem dX12_pegs_5 : decode cX12_pegs 5 = .ok (.aload_n 0, 1) := by decide +kernel
theorem dX12_pegs_6 : decode cX12_pegs 6 = .ok (.getfield 127, 3) := by decide +kernel
theorem dX12_pegs_9 : decode cX12_pegs 9 = .ok (.iload_n 1, 1) := by decide +kernel
theorem dX12_pegs_10 : decode cX12_pegs 10 = .ok (.iaload, 1) := by decide +kernel
theorem dX12_pegs_11 : decode cX12_pegs 11 = .ok (.if_icmp .ge 31, 3) := by decide +kernel
theorem dX12_pegs_14 : decode cX12_pegs 14 = .ok (.iload_n 2, 1) := by decide +kernel
theorem dX12_pegs_15 : decode cX12_pegs 15 = .ok (.aload_n 0, 1) := by decide +kernel
theorem dX12_pegs_16 : decode cX12_pegs 16 = .ok (.getfield 130, 3) := by decide +kernel
theorem dX12_pegs_19 : decode cX12_pegs 19 = .ok (.bipush 60, 2) := by decide +kernel
theorem dX12_pegs_21 : decode cX12_pegs 21 = .ok (.iload_n 1, 1) := by decide +kernel
theorem dX12_pegs_22 : decode cX12_pegs 22 = .ok (.imul, 1) := by decide +kernel
theorem dX12_pegs_23 : decode cX12_pegs 23 = .ok (.iload_n 3, 1) := by decide +kernel
theorem dX12_pegs_24 : decode cX12_pegs 24 = .ok (.iadd, 1) := by decide +kernel
theorem dX12_pegs_25 : decode cX12_pegs 25 = .ok (.iaload, 1) := by decide +kernel
theorem dX12_pegs_26 : decode cX12_pegs 26 = .ok (.ifCond .lt 7, 3) := by decide +kernel
theorem dX12_pegs_29 : decode cX12_pegs 29 = .ok (.iconst 1, 1) := by decide +kernel
theorem dX12_pegs_30 : decode cX12_pegs 30 = .ok (.goto 4, 3) := by decide +kernel
theorem dX12_pegs_33 : decode cX12_pegs 33 = .ok (.iconst 0, 1) := by decide +kernel
theorem dX12_pegs_34 : decode cX12_pegs 34 = .ok (.iadd, 1) := by decide +kernel
theorem dX12_pegs_35 : decode cX12_pegs 35 = .ok (.istore_n 2, 1) := by decide +kernel
theorem dX12_pegs_36 : decode cX12_pegs 36 = .ok (.iinc 3 1, 3) := by decide +kernel
theorem dX12_pegs_39 : decode cX12_pegs 39 = .ok (.goto (-35), 3) := by decide +kernel
theorem dX12_pegs_42 : decode cX12_pegs 42 = .ok (.iload_n 2, 1) := by decide +kernel
theorem dX12_pegs_43 : decode cX12_pegs 43 = .ok (.ireturn, 1) := by decide +kernel
theorem dX12_weight_0 : decode cX12_weight 0 = .ok (.aload_n 0, 1) := by decide +kernel
theorem dX12_weight_1 : decode cX12_weight 1 = .ok (.iload_n 1, 1) := by decide +kernel
theorem dX12_weight_2 : decode cX12_weight 2 = .ok (.invokevirtual 276, 3) := by decide +kernel
theorem dX12_weight_5 : decode cX12_weight 5 = .ok (.istore_n 2, 1) := by decide +kernel
theorem dX12_weight_6 : decode cX12_weight 6 = .ok (.aload_n 0, 1) := by decide +kernel
theorem dX12_weight_7 : decode cX12_weight 7 = .ok (.getfield 133, 3) := by decide +kernel
theorem dX12_weight_10 : decode cX12_weight 10 = .ok (.iload_n 1, 1) := by decide +kernel
theorem dX12_weight_11 : decode cX12_weight 11 = .ok (.iaload, 1) := by decide +kernel
theorem dX12_weight_12 : decode cX12_weight 12 = .ok (.tableswitch 57 0 3 #[32, 45, 50, 34], 32) := by decide +kernel
theorem dX12_weight_44 : decode cX12_weight 44 = .ok (.iload_n 2, 1) := by decide +kernel
theorem dX12_weight_45 : decode cX12_weight 45 = .ok (.ireturn, 1) := by decide +kernel
theorem dX12_weight_46 : decode cX12_weight 46 = .ok (.iload_n 2, 1) := by decide +kernel
theorem dX12_weight_47 : decode cX12_weight 47 = .ok (.aload_n 0, 1) := by decide +kernel
theorem dX12_weight_48 : decode cX12_weight 48 = .ok (.getfield 127, 3) := by decide +kernel
theorem dX12_weight_51 : decode cX12_weight 51 = .ok (.iload_n 1, 1) := by decide +kernel
theorem dX12_weight_52 : decode cX12_weight 52 = .ok (.iaload, 1) := by decide +kernel
theorem dX12_weight_53 : decode cX12_weight 53 = .ok (.iload_n 2, 1) := by decide +kernel
theorem dX12_weight_54 : decode cX12_weight 54 = .ok (.isub, 1) := by decide +kernel
theorem dX12_weight_55 : decode cX12_weight 55 = .ok (.isub, 1) := by decide +kernel
theorem dX12_weight_56 : decode cX12_weight 56 = .ok (.ireturn, 1) := by decide +kernel
theorem dX12_weight_57 : decode cX12_weight 57 = .ok (.iload_n 2, 1) := by decide +kernel
theorem dX12_weight_58 : decode cX12_weight 58 = .ok (.bipush 10, 2) := by decide +kernel
theorem dX12_weight_60 : decode cX12_weight 60 = .ok (.iadd, 1) := by decide +kernel
theorem dX12_weight_61 : decode cX12_weight 61 = .ok (.ireturn, 1) := by decide +kernel
theorem dX12_weight_62 : decode cX12_weight 62 = .ok (.iconst 2, 1) := by decide +kernel
theorem dX12_weight_63 : decode cX12_weight 63 = .ok (.iload_n 2, 1) := by decide +kernel
theorem dX12_weight_64 : decode cX12_weight 64 = .ok (.bipush 10, 2) := by decide +kernel
theorem dX12_weight_66 : decode cX12_weight 66 = .ok (.iadd, 1) := by decide +kernel
theorem dX12_weight_67 : decode cX12_weight 67 = .ok (.imul, 1) := by decide +kernel
theorem dX12_weight_68 : decode cX12_weight 68 = .ok (.ireturn, 1) := by decide +kernel
theorem dX12_weight_69 : decode cX12_weight 69 = .ok (.iconst 2, 1) := by decide +kernel
theorem dX12_weight_70 : decode cX12_weight 70 = .ok (.iload_n 2, 1) := by decide +kernel
theorem dX12_weight_71 : decode cX12_weight 71 = .ok (.bipush 10, 2) := by decide +kernel
theorem dX12_weight_73 : decode cX12_weight 73 = .ok (.iadd, 1) := by decide +kernel
theorem dX12_weight_74 : decode cX12_weight 74 = .ok (.imul, 1) := by decide +kernel
theorem dX12_weight_75 : decode cX12_weight 75 = .ok (.iconst 1, 1) := by decide +kernel
theorem dX12_weight_76 : decode cX12_weight 76 = .ok (.iadd, 1) := by decide +kernel
theorem dX12_weight_77 : decode cX12_weight 77 = .ok (.ireturn, 1) := by decide +kernel
theorem dX12_kept_0 : decode cX12_kept 0 = .ok (.aload_n 0, 1) := by decide +kernel
theorem dX12_kept_1 : decode cX12_kept 1 = .ok (.iconst 0, 1) := by decide +kernel
theorem dX12_kept_2 : decode cX12_kept 2 = .ok (.putfield 139, 3) := by decide +kernel
theorem dX12_kept_5 : decode cX12_kept 5 = .ok (.iload_n 1, 1) := by decide +kernel
theorem dX12_kept_6 : decode cX12_kept 6 = .ok (.invokestatic 270, 3) := by decide +kernel
theorem dX12_kept_9 : decode cX12_kept 9 = .ok (.ifCond .eq 13, 3) := by decide +kernel
theorem dX12_kept_12 : decode cX12_kept 12 = .ok (.iload_n 2, 1) := by decide +kernel
theorem dX12_kept_13 : decode cX12_kept 13 = .ok (.iconst 0, 1) := by decide +kernel
theorem dX12_kept_14 : decode cX12_kept 14 = .ok (.bipush 8, 2) := by decide +kernel
theorem dX12_kept_16 : decode cX12_kept 16 = .ok (.invokestatic 142, 3) := by decide +kernel
theorem dX12_kept_19 : decode cX12_kept 19 = .ok (.ifCond .ne 5, 3) := by decide +kernel
theorem dX12_kept_22 : decode cX12_kept 22 = .ok (.iconst (-1), 1) := by decide +kernel
theorem dX12_kept_23 : decode cX12_kept 23 = .ok (.ireturn, 1) := by decide +kernel
theorem dX12_kept_24 : decode cX12_kept 24 = .ok (.aload_n 0, 1) := by decide +kernel
theorem dX12_kept_25 : decode cX12_kept 25 = .ok (.getfield 124, 3) := by decide +kernel
theorem dX12_kept_28 : decode cX12_kept 28 = .ok (.iload_n 1, 1) := by decide +kernel
theorem dX12_kept_29 : decode cX12_kept 29 = .ok (.iaload, 1) := by decide +kernel
theorem dX12_kept_30 : decode cX12_kept 30 = .ok (.ifCond .ne 10, 3) := by decide +kernel
theorem dX12_kept_33 : decode cX12_kept 33 = .ok (.aload_n 0, 1) := by decide +kernel
theorem dX12_kept_34 : decode cX12_kept 34 = .ok (.bipush (-11), 2) := by decide +kernel
theorem dX12_kept_36 : decode cX12_kept 36 = .ok (.invokevirtual 202, 3) := by decide +kernel
theorem dX12_kept_39 : decode cX12_kept 39 = .ok (.ireturn, 1) := by decide +kernel
theorem dX12_kept_40 : decode cX12_kept 40 = .ok (.aload_n 0, 1) := by decide +kernel
theorem dX12_kept_41 : decode cX12_kept 41 = .ok (.getfield 124, 3) := by decide +kernel
theorem dX12_kept_44 : decode cX12_kept 44 = .ok (.iload_n 1, 1) := by decide +kernel
theorem dX12_kept_45 : decode cX12_kept 45 = .ok (.iaload, 1) := by decide +kernel
theorem dX12_kept_46 : decode cX12_kept 46 = .ok (.iconst 4, 1) := by decide +kernel
theorem dX12_kept_47 : decode cX12_kept 47 = .ok (.if_icmp .eq 10, 3) := by decide +kernel
theorem dX12_kept_50 : decode cX12_kept 50 = .ok (.aload_n 0, 1) := by decide +kernel
theorem dX12_kept_51 : decode cX12_kept 51 = .ok (.bipush (-12), 2) := by decide +kernel
theorem dX12_kept_53 : decode cX12_kept 53 = .ok (.invokevirtual 202, 3) := by decide +kernel
theorem dX12_kept_56 : decode cX12_kept 56 = .ok (.ireturn, 1) := by decide +kernel
theorem dX12_kept_57 : decode cX12_kept 57 = .ok (.aload_n 0, 1) := by decide +kernel
theorem dX12_kept_58 : decode cX12_kept 58 = .ok (.getfield 133, 3) := by decide +kernel
theorem dX12_kept_61 : decode cX12_kept 61 = .ok (.iload_n 1, 1) := by decide +kernel
theorem dX12_kept_62 : decode cX12_kept 62 = .ok (.iaload, 1) := by decide +kernel
theorem dX12_kept_63 : decode cX12_kept 63 = .ok (.istore_n 3, 1) := by decide +kernel
theorem dX12_kept_64 : decode cX12_kept 64 = .ok (.iload_n 2, 1) := by decide +kernel
theorem dX12_kept_65 : decode cX12_kept 65 = .ok (.tableswitch 75 0 3 #[31, 33, 39, 68], 31) := by decide +kernel
theorem dX12_kept_96 : decode cX12_kept 96 = .ok (.iload_n 3, 1) := by decide +kernel
theorem dX12_kept_97 : decode cX12_kept 97 = .ok (.ireturn, 1) := by decide +kernel
theorem dX12_kept_98 : decode cX12_kept 98 = .ok (.aload_n 0, 1) := by decide +kernel
theorem dX12_kept_99 : decode cX12_kept 99 = .ok (.iload_n 1, 1) := by decide +kernel
theorem dX12_kept_100 : decode cX12_kept 100 = .ok (.invokevirtual 279, 3) := by decide +kernel
theorem dX12_kept_103 : decode cX12_kept 103 = .ok (.ireturn, 1) := by decide +kernel
theorem dX12_kept_104 : decode cX12_kept 104 = .ok (.iload_n 3, 1) := by decide +kernel
theorem dX12_kept_105 : decode cX12_kept 105 = .ok (.ifCond .ne 7, 3) := by decide +kernel
theorem dX12_kept_108 : decode cX12_kept 108 = .ok (.iconst 1, 1) := by decide +kernel
theorem dX12_kept_109 : decode cX12_kept 109 = .ok (.goto 23, 3) := by decide +kernel
theorem dX12_kept_112 : decode cX12_kept 112 = .ok (.iload_n 3, 1) := by decide +kernel
theorem dX12_kept_113 : decode cX12_kept 113 = .ok (.iconst 3, 1) := by decide +kernel
theorem dX12_kept_114 : decode cX12_kept 114 = .ok (.if_icmp .ne 7, 3) := by decide +kernel
theorem dX12_kept_117 : decode cX12_kept 117 = .ok (.iconst 0, 1) := by decide +kernel
theorem dX12_kept_118 : decode cX12_kept 118 = .ok (.goto 14, 3) := by decide +kernel
theorem dX12_kept_121 : decode cX12_kept 121 = .ok (.iload_n 3, 1) := by decide +kernel
theorem dX12_kept_122 : decode cX12_kept 122 = .ok (.iconst 4, 1) := by decide +kernel
theorem dX12_kept_123 : decode cX12_kept 123 = .ok (.if_icmp .ne 8, 3) := by decide +kernel
theorem dX12_kept_126 : decode cX12_kept 126 = .ok (.bipush 7, 2) := by decide +kernel
theorem dX12_kept_128 : decode cX12_kept 128 = .ok (.goto 4, 3) := by decide +kernel
theorem dX12_kept_131 : decode cX12_kept 131 = .ok (.iconst 2, 1) := by decide +kernel
theorem dX12_kept_132 : decode cX12_kept 132 = .ok (.ireturn, 1) := by decide +kernel
theorem dX12_kept_133 : decode cX12_kept 133 = .ok (.aload_n 0, 1) := by decide +kernel
theorem dX12_kept_134 : decode cX12_kept 134 = .ok (.getfield 127, 3) := by decide +kernel
theorem dX12_kept_137 : decode cX12_kept 137 = .ok (.iload_n 1, 1) := by decide +kernel
theorem dX12_kept_138 : decode cX12_kept 138 = .ok (.iaload, 1) := by decide +kernel
theorem dX12_kept_139 : decode cX12_kept 139 = .ok (.ireturn, 1) := by decide +kernel
theorem dX12_kept_140 : decode cX12_kept 140 = .ok (.iload_n 2, 1) := by decide +kernel
theorem dX12_kept_141 : decode cX12_kept 141 = .ok (.iconst 4, 1) := by decide +kernel
theorem dX12_kept_142 : decode cX12_kept 142 = .ok (.isub, 1) := by decide +kernel
theorem dX12_kept_143 : decode cX12_kept 143 = .ok (.aload_n 0, 1) := by decide +kernel
theorem dX12_kept_144 : decode cX12_kept 144 = .ok (.getfield 127, 3) := by decide +kernel
theorem dX12_kept_147 : decode cX12_kept 147 = .ok (.iload_n 1, 1) := by decide +kernel
theorem dX12_kept_148 : decode cX12_kept 148 = .ok (.iaload, 1) := by decide +kernel
theorem dX12_kept_149 : decode cX12_kept 149 = .ok (.if_icmp .ge 19, 3) := by decide +kernel
theorem dX12_kept_152 : decode cX12_kept 152 = .ok (.aload_n 0, 1) := by decide +kernel
theorem dX12_kept_153 : decode cX12_kept 153 = .ok (.getfield 130, 3) := by decide +kernel
theorem dX12_kept_156 : decode cX12_kept 156 = .ok (.bipush 60, 2) := by decide +kernel
theorem dX12_kept_158 : decode cX12_kept 158 = .ok (.iload_n 1, 1) := by decide +kernel
theorem dX12_kept_159 : decode cX12_kept 159 = .ok (.imul, 1) := by decide +kernel
theorem dX12_kept_160 : decode cX12_kept 160 = .ok (.iload_n 2, 1) := by decide +kernel
theorem dX12_kept_161 : decode cX12_kept 161 = .ok (.iadd, 1) := by decide +kernel
theorem dX12_kept_162 : decode cX12_kept 162 = .ok (.iconst 4, 1) := by decide +kernel
theorem dX12_kept_163 : decode cX12_kept 163 = .ok (.isub, 1) := by decide +kernel
theorem dX12_kept_164 : decode cX12_kept 164 = .ok (.iaload, 1) := by decide +kernel
theorem dX12_kept_165 : decode cX12_kept 165 = .ok (.goto 9, 3) := by decide +kernel
theorem dX12_kept_168 : decode cX12_kept 168 = .ok (.aload_n 0, 1) := by decide +kernel
theorem dX12_kept_169 : decode cX12_kept 169 = .ok (.bipush (-13), 2) := by decide +kernel
theorem dX12_kept_171 : decode cX12_kept 171 = .ok (.invokevirtual 202, 3) := by decide +kernel
theorem dX12_kept_174 : decode cX12_kept 174 = .ok (.ireturn, 1) := by decide +kernel
theorem dX12_toss_0 : decode cX12_toss 0 = .ok (.aload_n 0, 1) := by decide +kernel
theorem dX12_toss_1 : decode cX12_toss 1 = .ok (.iconst 0, 1) := by decide +kernel
theorem dX12_toss_2 : decode cX12_toss 2 = .ok (.putfield 139, 3) := by decide +kernel
theorem dX12_toss_5 : decode cX12_toss 5 = .ok (.iload_n 1, 1) := by decide +kernel
theorem dX12_toss_6 : decode cX12_toss 6 = .ok (.invokestatic 270, 3) := by decide +kernel
theorem dX12_toss_9 : decode cX12_toss 9 = .ok (.ifCond .ne 5, 3) := by decide +kernel
theorem dX12_toss_12 : decode cX12_toss 12 = .ok (.iconst (-1), 1) := by decide +kernel
theorem dX12_toss_13 : decode cX12_toss 13 = .ok (.ireturn, 1) := by decide +kernel
theorem dX12_toss_14 : decode cX12_toss 14 = .ok (.aload_n 0, 1) := by decide +kernel
theorem dX12_toss_15 : decode cX12_toss 15 = .ok (.getfield 124, 3) := by decide +kernel
theorem dX12_toss_18 : decode cX12_toss 18 = .ok (.iload_n 1, 1) := by decide +kernel
theorem dX12_toss_19 : decode cX12_toss 19 = .ok (.iaload, 1) := by decide +kernel
theorem dX12_toss_20 : decode cX12_toss 20 = .ok (.ifCond .ne 10, 3) := by decide +kernel
theorem dX12_toss_23 : decode cX12_toss 23 = .ok (.aload_n 0, 1) := by decide +kernel
theorem dX12_toss_24 : decode cX12_toss 24 = .ok (.bipush (-11), 2) := by decide +kernel
theorem dX12_toss_26 : decode cX12_toss 26 = .ok (.invokevirtual 202, 3) := by decide +kernel
theorem dX12_toss_29 : decode cX12_toss 29 = .ok (.ireturn, 1) := by decide +kernel
theorem dX12_toss_30 : decode cX12_toss 30 = .ok (.aload_n 0, 1) := by decide +kernel
theorem dX12_toss_31 : decode cX12_toss 31 = .ok (.getfield 124, 3) := by decide +kernel
theorem dX12_toss_34 : decode cX12_toss 34 = .ok (.iload_n 1, 1) := by decide +kernel
theorem dX12_toss_35 : decode cX12_toss 35 = .ok (.iaload, 1) := by decide +kernel
theorem dX12_toss_36 : decode cX12_toss 36 = .ok (.iconst 4, 1) := by decide +kernel
theorem dX12_toss_37 : decode cX12_toss 37 = .ok (.if_icmp .eq 10, 3) := by decide +kernel
theorem dX12_toss_40 : decode cX12_toss 40 = .ok (.aload_n 0, 1) := by decide +kernel
theorem dX12_toss_41 : decode cX12_toss 41 = .ok (.bipush (-12), 2) := by decide +kernel
theorem dX12_toss_43 : decode cX12_toss 43 = .ok (.invokevirtual 202, 3) := by decide +kernel
theorem dX12_toss_46 : decode cX12_toss 46 = .ok (.ireturn, 1) := by decide +kernel
theorem dX12_toss_47 : decode cX12_toss 47 = .ok (.aload_n 0, 1) := by decide +kernel
theorem dX12_toss_48 : decode cX12_toss 48 = .ok (.iload_n 1, 1) := by decide +kernel
theorem dX12_toss_49 : decode cX12_toss 49 = .ok (.invokevirtual 276, 3) := by decide +kernel
theorem dX12_toss_52 : decode cX12_toss 52 = .ok (.ifCond .ne 12, 3) := by decide +kernel
theorem dX12_toss_55 : decode cX12_toss 55 = .ok (.aload_n 0, 1) := by decide +kernel
theorem dX12_toss_56 : decode cX12_toss 56 = .ok (.bipush (-15), 2) := by decide +kernel
theorem dX12_toss_58 : decode cX12_toss 58 = .ok (.invokevirtual 202, 3) := by decide +kernel
theorem dX12_toss_61 : decode cX12_toss 61 = .ok (.goto 11, 3) := by decide +kernel
theorem dX12_toss_64 : decode cX12_toss 64 = .ok (.iconst 1, 1) := by decide +kernel
theorem dX12_toss_65 : decode cX12_toss 65 = .ok (.aload_n 0, 1) := by decide +kernel
theorem dX12_toss_66 : decode cX12_toss 66 = .ok (.getfield 133, 3) := by decide +kernel
theorem dX12_toss_69 : decode cX12_toss 69 = .ok (.iload_n 1, 1) := by decide +kernel
theorem dX12_toss_70 : decode cX12_toss 70 = .ok (.iaload, 1) := by decide +kernel
theorem dX12_toss_71 : decode cX12_toss 71 = .ok (.iadd, 1) := by decide +kernel
theorem dX12_toss_72 : decode cX12_toss 72 = .ok (.ireturn, 1) := by decide +kernel
theorem dX12_count_0 : decode cX12_count 0 = .ok (.aload_n 0, 1) := by decide +kernel
theorem dX12_count_1 : decode cX12_count 1 = .ok (.iconst 0, 1) := by decide +kernel
theorem dX12_count_2 : decode cX12_count 2 = .ok (.putfield 139, 3) := by decide +kernel
theorem dX12_count_5 : decode cX12_count 5 = .ok (.iload_n 1, 1) := by decide +kernel
theorem dX12_count_6 : decode cX12_count 6 = .ok (.tableswitch 143 0 12 #[66, 71, 76, 81, 86, 95, 100, 113, 118, 123, 128, 133, 138], 66) := by decide +kernel
theorem dX12_count_72 : decode cX12_count 72 = .ok (.aload_n 0, 1) := by decide +kernel
theorem dX12_count_73 : decode cX12_count 73 = .ok (.getfield 7, 3) := by decide +kernel
theorem dX12_count_76 : decode cX12_count 76 = .ok (.ireturn, 1) := by decide +kernel
theorem dX12_count_77 : decode cX12_count 77 = .ok (.aload_n 0, 1) := by decide +kernel
theorem dX12_count_78 : decode cX12_count 78 = .ok (.getfield 13, 3) := by decide +kernel
theorem dX12_count_81 : decode cX12_count 81 = .ok (.ireturn, 1) := by decide +kernel
theorem dX12_count_82 : decode cX12_count 82 = .ok (.aload_n 0, 1) := by decide +kernel
theorem dX12_count_83 : decode cX12_count 83 = .ok (.getfield 16, 3) := by decide +kernel
theorem dX12_count_86 : decode cX12_count 86 = .ok (.ireturn, 1) := by decide +kernel
theorem dX12_count_87 : decode cX12_count 87 = .ok (.aload_n 0, 1) := by decide +kernel
theorem dX12_count_88 : decode cX12_count 88 = .ok (.invokevirtual 195, 3) := by decide +kernel
theorem dX12_count_91 : decode cX12_count 91 = .ok (.ireturn, 1) := by decide +kernel
theorem dX12_count_92 : decode cX12_count 92 = .ok (.aload_n 0, 1) := by decide +kernel
theorem dX12_count_93 : decode cX12_count 93 = .ok (.invokevirtual 208, 3) := by decide +kernel
theorem dX12_count_96 : decode cX12_count 96 = .ok (.aload_n 0, 1) := by decide +kernel
theorem dX12_count_97 : decode cX12_count 97 = .ok (.getfield 164, 3) := by decide +kernel
theorem dX12_count_100 : decode cX12_count 100 = .ok (.ireturn, 1) := by decide +kernel
theorem dX12_count_101 : decode cX12_count 101 = .ok (.aload_n 0, 1) := by decide +kernel
theorem dX12_count_102 : decode cX12_count 102 = .ok (.getfield 171, 3) := by decide +kernel
theorem dX12_count_105 : decode cX12_count 105 = .ok (.ireturn, 1) := by decide +kernel
theorem dX12_count_106 : decode cX12_count 106 = .ok (.aload_n 0, 1) := by decide +kernel
theorem dX12_count_107 : decode cX12_count 107 = .ok (.invokevirtual 208, 3) := by decide +kernel
theorem dX12_count_110 : decode cX12_count 110 = .ok (.aload_n 0, 1) := by decide +kernel
theorem dX12_count_111 : decode cX12_count 111 = .ok (.invokevirtual 211, 3) := by decide +kernel
theorem dX12_count_114 : decode cX12_count 114 = .ok (.aload_n 0, 1) := by decide +kernel
theorem dX12_count_115 : decode cX12_count 115 = .ok (.invokevirtual 223, 3) := by decide +kernel
theorem dX12_count_118 : decode cX12_count 118 = .ok (.ireturn, 1) := by decide +kernel
theorem dX12_count_119 : decode cX12_count 119 = .ok (.aload_n 0, 1) := by decide +kernel
theorem dX12_count_120 : decode cX12_count 120 = .ok (.getfield 186, 3) := by decide +kernel
theorem dX12_count_123 : decode cX12_count 123 = .ok (.ireturn, 1) := by decide +kernel
theorem dX12_count_124 : decode cX12_count 124 = .ok (.aload_n 0, 1) := by decide +kernel
theorem dX12_count_125 : decode cX12_count 125 = .ok (.getfield 189, 3) := by decide +kernel
theorem dX12_count_128 : decode cX12_count 128 = .ok (.ireturn, 1) := by decide +kernel
theorem dX12_count_129 : decode cX12_count 129 = .ok (.aload_n 0, 1) := by decide +kernel
theorem dX12_count_130 : decode cX12_count 130 = .ok (.getfield 180, 3) := by decide +kernel
theorem dX12_count_133 : decode cX12_count 133 = .ok (.ireturn, 1) := by decide +kernel
theorem dX12_count_134 : decode cX12_count 134 = .ok (.aload_n 0, 1) := by decide +kernel
theorem dX12_count_135 : decode cX12_count 135 = .ok (.getfield 150, 3) := by decide +kernel
theorem dX12_count_138 : decode cX12_count 138 = .ok (.ireturn, 1) := by decide +kernel
theorem dX12_count_139 : decode cX12_count 139 = .ok (.aload_n 0, 1) := by decide +kernel
theorem dX12_count_140 : decode cX12_count 140 = .ok (.getfield 183, 3) := by decide +kernel
theorem dX12_count_143 : decode cX12_count 143 = .ok (.ireturn, 1) := by decide +kernel
theorem dX12_count_144 : decode cX12_count 144 = .ok (.aload_n 0, 1) := by decide +kernel
theorem dX12_count_145 : decode cX12_count 145 = .ok (.getfield 192, 3) := by decide +kernel
theorem dX12_count_148 : decode cX12_count 148 = .ok (.ireturn, 1) := by decide +kernel
theorem dX12_count_149 : decode cX12_count 149 = .ok (.iconst (-1), 1) := by decide +kernel
theorem dX12_count_150 : decode cX12_count 150 = .ok (.ireturn, 1) := by decide +kernel
