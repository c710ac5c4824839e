theorem dX11_init_0 : decode cX11_init 0 = .ok (.aload_n 0, 1) := by decide +kernel
theorem dX11_init_1 : decode cX11_init 1 = .ok (.invokespecial 1, 3) := by decide +kernel
theorem dX11_init_4 : decode cX11_init 4 = .ok (.aload_n 0, 1) := by decide +kernel
theorem dX11_init_5 : decode cX11_init 5 = .ok (.bipush 6, 2) := by decide +kernel
theorem dX11_init_7 : decode cX11_init 7 = .ok (.newarray .int, 2) := by decide +kernel
theorem dX11_init_9 : decode cX11_init 9 = .ok (.putfield 9, 3) := by decide +kernel
theorem dX11_init_12 : decode cX11_init 12 = .ok (.aload_n 0, 1) := by decide +kernel
theorem dX11_init_13 : decode cX11_init 13 = .ok (.bipush 6, 2) := by decide +kernel
theorem dX11_init_15 : decode cX11_init 15 = .ok (.newarray .int, 2) := by decide +kernel
theorem dX11_init_17 : decode cX11_init 17 = .ok (.putfield 13, 3) := by decide +kernel
theorem dX11_init_20 : decode cX11_init 20 = .ok (.aload_n 0, 1) := by decide +kernel
theorem dX11_init_21 : decode cX11_init 21 = .ok (.bipush 6, 2) := by decide +kernel
theorem dX11_init_23 : decode cX11_init 23 = .ok (.newarray .int, 2) := by decide +kernel
theorem dX11_init_25 : decode cX11_init 25 = .ok (.putfield 16, 3) := by decide +kernel
theorem dX11_init_28 : decode cX11_init 28 = .ok (.aload_n 0, 1) := by decide +kernel
theorem dX11_init_29 : decode cX11_init 29 = .ok (.bipush 6, 2) := by decide +kernel
theorem dX11_init_31 : decode cX11_init 31 = .ok (.newarray .int, 2) := by decide +kernel
theorem dX11_init_33 : decode cX11_init 33 = .ok (.putfield 19, 3) := by decide +kernel
theorem dX11_init_36 : decode cX11_init 36 = .ok (.aload_n 0, 1) := by decide +kernel
theorem dX11_init_37 : decode cX11_init 37 = .ok (.bipush 6, 2) := by decide +kernel
theorem dX11_init_39 : decode cX11_init 39 = .ok (.newarray .int, 2) := by decide +kernel
theorem dX11_init_41 : decode cX11_init 41 = .ok (.putfield 22, 3) := by decide +kernel
theorem dX11_init_44 : decode cX11_init 44 = .ok (.aload_n 0, 1) := by decide +kernel
theorem dX11_init_45 : decode cX11_init 45 = .ok (.bipush 40, 2) := by decide +kernel
theorem dX11_init_47 : decode cX11_init 47 = .ok (.newarray .int, 2) := by decide +kernel
theorem dX11_init_49 : decode cX11_init 49 = .ok (.putfield 25, 3) := by decide +kernel
theorem dX11_init_52 : decode cX11_init 52 = .ok (.aload_n 0, 1) := by decide +kernel
theorem dX11_init_53 : decode cX11_init 53 = .ok (.bipush 40, 2) := by decide +kernel
theorem dX11_init_55 : decode cX11_init 55 = .ok (.newarray .int, 2) := by decide +kernel
theorem dX11_init_57 : decode cX11_init 57 = .ok (.putfield 28, 3) := by decide +kernel
theorem dX11_init_60 : decode cX11_init 60 = .ok (.aload_n 0, 1) := by decide +kernel
theorem dX11_init_61 : decode cX11_init 61 = .ok (.bipush 40, 2) := by decide +kernel
theorem dX11_init_63 : decode cX11_init 63 = .ok (.newarray .int, 2) := by decide +kernel
theorem dX11_init_65 : decode cX11_init 65 = .ok (.putfield 31, 3) := by decide +kernel
theorem dX11_init_68 : decode cX11_init 68 = .ok (.aload_n 0, 1) := by decide +kernel
theorem dX11_init_69 : decode cX11_init 69 = .ok (.bipush 40, 2) := by decide +kernel
theorem dX11_init_71 : decode cX11_init 71 = .ok (.newarray .int, 2) := by decide +kernel
theorem dX11_init_73 : decode cX11_init 73 = .ok (.putfield 34, 3) := by decide +kernel
theorem dX11_init_76 : decode cX11_init 76 = .ok (.aload_n 0, 1) := by decide +kernel
theorem dX11_init_77 : decode cX11_init 77 = .ok (.bipush 40, 2) := by decide +kernel
theorem dX11_init_79 : decode cX11_init 79 = .ok (.newarray .int, 2) := by decide +kernel
theorem dX11_init_81 : decode cX11_init 81 = .ok (.putfield 37, 3) := by decide +kernel
theorem dX11_init_84 : decode cX11_init 84 = .ok (.aload_n 0, 1) := by decide +kernel
theorem dX11_init_85 : decode cX11_init 85 = .ok (.sipush 200, 3) := by decide +kernel
theorem dX11_init_88 : decode cX11_init 88 = .ok (.newarray .byte, 2) := by decide +kernel
theorem dX11_init_90 : decode cX11_init 90 = .ok (.putfield 40, 3) := by decide +kernel
theorem dX11_init_93 : decode cX11_init 93 = .ok (.aload_n 0, 1) := by decide +kernel
theorem dX11_init_94 : decode cX11_init 94 = .ok (.bipush 9, 2) := by decide +kernel
theorem dX11_init_96 : decode cX11_init 96 = .ok (.newarray .int, 2) := by decide +kernel
theorem dX11_init_98 : decode cX11_init 98 = .ok (.putfield 44, 3) := by decide +kernel
theorem dX11_init_101 : decode cX11_init 101 = .ok (.aload_n 0, 1) := by decide +kernel
theorem dX11_init_102 : decode cX11_init 102 = .ok (.bipush 9, 2) := by decide +kernel
theorem dX11_init_104 : decode cX11_init 104 = .ok (.newarray .int, 2) := by decide +kernel
theorem dX11_init_106 : decode cX11_init 106 = .ok (.putfield 47, 3) := by decide +kernel
theorem dX11_init_109 : decode cX11_init 109 = .ok (.aload_n 0, 1) := by decide +kernel
theorem dX11_init_110 : decode cX11_init 110 = .ok (.bipush 9, 2) := by decide +kernel
theorem dX11_init_112 : decode cX11_init 112 = .ok (.newarray .boolean, 2) := by decide +kernel
theorem dX11_init_114 : decode cX11_init 114 = .ok (.putfield 50, 3) := by decide +kernel
theorem dX11_init_117 : decode cX11_init 117 = .ok (.aload_n 0, 1) := by decide +kernel
theorem dX11_init_118 : decode cX11_init 118 = .ok (.bipush 30, 2) := by decide +kernel
theorem dX11_init_120 : decode cX11_init 120 = .ok (.newarray .int, 2) := by decide +kernel
theorem dX11_init_122 : decode cX11_init 122 = .ok (.putfield 54, 3) := by decide +kernel
theorem dX11_init_125 : decode cX11_init 125 = .ok (.aload_n 0, 1) := by decide +kernel
theorem dX11_init_126 : decode cX11_init 126 = .ok (.bipush 30, 2) := by decide +kernel
theorem dX11_init_128 : decode cX11_init 128 = .ok (.newarray .int, 2) := by decide +kernel
theorem dX11_init_130 : decode cX11_init 130 = .ok (.putfield 57, 3) := by decide +kernel
theorem dX11_init_133 : decode cX11_init 133 = .ok (.aload_n 0, 1) := by decide +kernel
theorem dX11_init_134 : decode cX11_init 134 = .ok (.bipush 30, 2) := by decide +kernel
theorem dX11_init_136 : decode cX11_init 136 = .ok (.newarray .int, 2) := by decide +kernel
theorem dX11_init_138 : decode cX11_init 138 = .ok (.putfield 60, 3) := by decide +kernel
theorem dX11_init_141 : decode cX11_init 141 = .ok (.aload_n 0, 1) := by decide +kernel
theorem dX11_init_142 : decode cX11_init 142 = .ok (.bipush 30, 2) := by decide +kernel
theorem dX11_init_144 : decode cX11_init 144 = .ok (.newarray .int, 2) := by decide +kernel
theorem dX11_init_146 : decode cX11_init 146 = .ok (.putfield 63, 3) := by decide +kernel
theorem dX11_init_149 : decode cX11_init 149 = .ok (.aload_n 0, 1) := by decide +kernel
theorem dX11_init_150 : decode cX11_init 150 = .ok (.bipush 30, 2) := by decide +kernel
theorem dX11_init_152 : decode cX11_init 152 = .ok (.newarray .int, 2) := by decide +kernel
theorem dX11_init_154 : decode cX11_init 154 = .ok (.putfield 66, 3) := by decide +kernel
theorem dX11_init_157 : decode cX11_init 157 = .ok (.aload_n 0, 1) := by decide +kernel
theorem dX11_init_158 : decode cX11_init 158 = .ok (.iconst 5, 1) := by decide +kernel
theorem dX11_init_159 : decode cX11_init 159 = .ok (.newarray .int, 2) := by decide +kernel
theorem dX11_init_161 : decode cX11_init 161 = .ok (.putfield 69, 3) := by decide +kernel
theorem dX11_init_164 : decode cX11_init 164 = .ok (.aload_n 0, 1) := by decide +kernel
theorem dX11_init_165 : decode cX11_init 165 = .ok (.iconst 5, 1) := by decide +kernel
theorem dX11_init_166 : decode cX11_init 166 = .ok (.newarray .int, 2) := by decide +kernel
theorem dX11_init_168 : decode cX11_init 168 = .ok (.putfield 72, 3) := by decide +kernel
theorem dX11_init_171 : decode cX11_init 171 = .ok (.aload_n 0, 1) := by decide +kernel
theorem dX11_init_172 : decode cX11_init 172 = .ok (.iconst 5, 1) := by decide +kernel
theorem dX11_init_173 : decode cX11_init 173 = .ok (.newarray .int, 2) := by decide +kernel
theorem dX11_init_175 : decode cX11_init 175 = .ok (.putfield 75, 3) := by decide +kernel
theorem dX11_init_178 : decode cX11_init 178 = .ok (.aload_n 0, 1) := by decide +kernel
theorem dX11_init_179 : decode cX11_init 179 = .ok (.iconst 5, 1) := by decide +kernel
theorem dX11_init_180 : decode cX11_init 180 = .ok (.newarray .int, 2) := by decide +kernel
theorem dX11_init_182 : decode cX11_init 182 = .ok (.putfield 78, 3) := by decide +kernel
theorem dX11_init_185 : decode cX11_init 185 = .ok (.aload_n 0, 1) := by decide +kernel
theorem dX11_init_186 : decode cX11_init 186 = .ok (.iconst 5, 1) := by decide +kernel
theorem dX11_init_187 : decode cX11_init 187 = .ok (.newarray .int, 2) := by decide +kernel
theorem dX11_init_189 : decode cX11_init 189 = .ok (.putfield 81, 3) := by decide +kernel
theorem dX11_init_192 : decode cX11_init 192 = .ok (.aload_n 0, 1) := by decide +kernel
theorem dX11_init_193 : decode cX11_init 193 = .ok (.iconst 5, 1) := by decide +kernel
theorem dX11_init_194 : decode cX11_init 194 = .ok (.newarray .int, 2) := by decide +kernel
theorem dX11_init_196 : decode cX11_init 196 = .ok (.putfield 84, 3) := by decide +kernel
theorem dX11_init_199 : decode cX11_init 199 = .ok (.aload_n 0, 1) := by decide +kernel
theorem dX11_init_200 : decode cX11_init 200 = .ok (.iconst 5, 1) := by decide +kernel
theorem dX11_init_201 : decode cX11_init 201 = .ok (.newarray .int, 2) := by decide +kernel
theorem dX11_init_203 : decode cX11_init 203 = .ok (.putfield 87, 3) := by decide +kernel
theorem dX11_init_206 : decode cX11_init 206 = .ok (.aload_n 0, 1) := by decide +kernel
theorem dX11_init_207 : decode cX11_init 207 = .ok (.iconst 5, 1) := by decide +kernel
theorem dX11_init_208 : decode cX11_init 208 = .ok (.newarray .int, 2) := by decide +kernel
theorem dX11_init_210 : decode cX11_init 210 = .ok (.putfield 90, 3) := by decide +kernel
theorem dX11_init_213 : decode cX11_init 213 = .ok (.aload_n 0, 1) := by decide +kernel
theorem dX11_init_214 : decode cX11_init 214 = .ok (.iconst 5, 1) := by decide +kernel
theorem dX11_init_215 : decode cX11_init 215 = .ok (.newarray .int, 2) := by decide +kernel
theorem dX11_init_217 : decode cX11_init 217 = .ok (.putfield 93, 3) := by decide +kernel
theorem dX11_init_220 : decode cX11_init 220 = .ok (.aload_n 0, 1) := by decide +kernel
theorem dX11_init_221 : decode cX11_init 221 = .ok (.bipush 6, 2) := by decide +kernel
theorem dX11_init_223 : decode cX11_init 223 = .ok (.newarray .int, 2) := by decide +kernel
theorem dX11_init_225 : decode cX11_init 225 = .ok (.putfield 96, 3) := by decide +kernel
theorem dX11_init_228 : decode cX11_init 228 = .ok (.aload_n 0, 1) := by decide +kernel
theorem dX11_init_229 : decode cX11_init 229 = .ok (.sipush 3002, 3) := by decide +kernel
theorem dX11_init_232 : decode cX11_init 232 = .ok (.newarray .int, 2) := by decide +kernel
theorem dX11_init_234 : decode cX11_init 234 = .ok (.putfield 99, 3) := by decide +kernel
theorem dX11_init_237 : decode cX11_init 237 = .ok (.aload_n 0, 1) := by decide +kernel
theorem dX11_init_238 : decode cX11_init 238 = .ok (.bipush 20, 2) := by decide +kernel
theorem dX11_init_240 : decode cX11_init 240 = .ok (.newarray .int, 2) := by decide +kernel
theorem dX11_init_242 : decode cX11_init 242 = .ok (.putfield 102, 3) := by decide +kernel
theorem dX11_init_245 : decode cX11_init 245 = .ok (.aload_n 0, 1) := by decide +kernel
theorem dX11_init_246 : decode cX11_init 246 = .ok (.bipush 20, 2) := by decide +kernel
theorem dX11_init_248 : decode cX11_init 248 = .ok (.newarray .int, 2) := by decide +kernel
theorem dX11_init_250 : decode cX11_init 250 = .ok (.putfield 105, 3) := by decide +kernel
theorem dX11_init_253 : decode cX11_init 253 = .ok (.aload_n 0, 1) := by decide +kernel
theorem dX11_init_254 : decode cX11_init 254 = .ok (.bipush 20, 2) := by decide +kernel
theorem dX11_init_256 : decode cX11_init 256 = .ok (.newarray .int, 2) := by decide +kernel
theorem dX11_init_258 : decode cX11_init 258 = .ok (.putfield 108, 3) := by decide +kernel
theorem dX11_init_261 : decode cX11_init 261 = .ok (.aload_n 0, 1) := by decide +kernel
theorem dX11_init_262 : decode cX11_init 262 = .ok (.bipush 20, 2) := by decide +kernel
theorem dX11_init_264 : decode cX11_init 264 = .ok (.newarray .int, 2) := by decide +kernel
theorem dX11_init_266 : decode cX11_init 266 = .ok (.putfield 111, 3) := by decide +kernel
theorem dX11_init_269 : decode cX11_init 269 = .ok (.aload_n 0, 1) := by decide +kernel
theorem dX11_init_270 : decode cX11_init 270 = .ok (.bipush 20, 2) := by decide +kernel
theorem dX11_init_272 : decode cX11_init 272 = .ok (.newarray .boolean, 2) := by decide +kernel
theorem dX11_init_274 : decode cX11_init 274 = .ok (.putfield 114, 3) := by decide +kernel
theorem dX11_init_277 : decode cX11_init 277 = .ok (.aload_n 0, 1) := by decide +kernel
theorem dX11_init_278 : decode cX11_init 278 = .ok (.bipush 40, 2) := by decide +kernel
theorem dX11_init_280 : decode cX11_init 280 = .ok (.newarray .int, 2) := by decide +kernel
theorem dX11_init_282 : decode cX11_init 282 = .ok (.putfield 117, 3) := by decide +kernel
theorem dX11_init_285 : decode cX11_init 285 = .ok (.aload_n 0, 1) := by decide +kernel
theorem dX11_init_286 : decode cX11_init 286 = .ok (.bipush 40, 2) := by decide +kernel
theorem dX11_init_288 : decode cX11_init 288 = .ok (.bipush 40, 2) := by decide +kernel
theorem dX11_init_290 : decode cX11_init 290 = .ok (.multianewarray 120 2, 4) := by decide +kernel
theorem dX11_init_294 : decode cX11_init 294 = .ok (.putfield 122, 3) := by decide +kernel
theorem dX11_init_297 : decode cX11_init 297 = .ok (.iconst 0, 1) := by decide +kernel
theorem dX11_init_298 : decode cX11_init 298 = .ok (.istore_n 1, 1) := by decide +kernel
theorem dX11_init_299 : decode cX11_init 299 = .ok (.iload_n 1, 1) := by decide +kernel
theorem dX11_init_300 : decode cX11_init 300 = .ok (.bipush 9, 2) := by decide +kernel
theorem dX11_init_302 : decode cX11_init 302 = .ok (.if_icmp .ge 19, 3) := by decide +kernel
theorem dX11_init_305 : decode cX11_init 305 = .ok (.aload_n 0, 1) := by decide +kernel
theorem dX11_init_306 : decode cX11_init 306 = .ok (.getfield 44, 3) := by decide +kernel
theorem dX11_init_309 : decode cX11_init 309 = .ok (.iload_n 1, 1) := by decide +kernel
theorem dX11_init_310 : decode cX11_init 310 = .ok (.iload_n 1, 1) := by decide +kernel
theorem dX11_init_311 : decode cX11_init 311 = .ok (.invokestatic 125, 3) := by decide +kernel
theorem dX11_init_314 : decode cX11_init 314 = .ok (.iastore, 1) := by decide +kernel
theorem dX11_init_315 : decode cX11_init 315 = .ok (.iinc 1 1, 3) := by decide +kernel
theorem dX11_init_318 : decode cX11_init 318 = .ok (.goto (-19), 3) := by decide +kernel
theorem dX11_init_321 : decode cX11_init 321 = .ok (.iconst 0, 1) := by decide +kernel
theorem dX11_init_322 : decode cX11_init 322 = .ok (.istore_n 1, 1) := by decide +kernel
theorem dX11_init_323 : decode cX11_init 323 = .ok (.iload_n 1, 1) := by decide +kernel
theorem dX11_init_324 : decode cX11_init 324 = .ok (.bipush 6, 2) := by decide +kernel
theorem dX11_init_326 : decode cX11_init 326 = .ok (.if_icmp .ge 16, 3) := by decide +kernel
theorem dX11_init_329 : decode cX11_init 329 = .ok (.aload_n 0, 1) := by decide +kernel
theorem dX11_init_330 : decode cX11_init 330 = .ok (.getfield 13, 3) := by decide +kernel
theorem dX11_init_333 : decode cX11_init 333 = .ok (.iload_n 1, 1) := by decide +kernel
theorem dX11_init_334 : decode cX11_init 334 = .ok (.iconst (-1), 1) := by decide +kernel
theorem dX11_init_335 : decode cX11_init 335 = .ok (.iastore, 1) := by decide +kernel
theorem dX11_init_336 : decode cX11_init 336 = .ok (.iinc 1 1, 3) := by decide +kernel
theorem dX11_init_339 : decode cX11_init 339 = .ok (.goto (-16), 3) := by decide +kernel
theorem dX11_init_342 : decode cX11_init 342 = .ok (.return_, 1) := by decide +kernel
theorem dX11_in_0 : decode cX11_in 0 = .ok (.iload_n 0, 1) := by decide +kernel
theorem dX11_in_1 : decode cX11_in 1 = .ok (.iload_n 1, 1) := by decide +kernel
theorem dX11_in_2 : decode cX11_in 2 = .ok (.if_icmp .lt 12, 3) := by decide +kernel
theorem dX11_in_5 : decode cX11_in 5 = .ok (.iload_n 0, 1) := by decide +kernel
theorem dX11_in_6 : decode cX11_in 6 = .ok (.iload_n 2, 1) := by decide +kernel
theorem dX11_in_7 : decode cX11_in 7 = .ok (.if_icmp .gt 7, 3) := by decide +kernel
theorem dX11_in_10 : decode cX11_in 10 = .ok (.iconst 1, 1) := by decide +kernel
theorem dX11_in_11 : decode cX11_in 11 = .ok (.goto 4, 3) := by decide +kernel
theorem dX11_in_14 : decode cX11_in 14 = .ok (.iconst 0, 1) := by decide +kernel
theorem dX11_in_15 : decode cX11_in 15 = .ok (.ireturn, 1) := by decide +kernel
theorem dX11_isEnd_0 : decode cX11_isEnd 0 = .ok (.aload_n 0, 1) := by decide +kernel
theorem dX11_isEnd_1 : decode cX11_isEnd 1 = .ok (.getfield 133, 3) := by decide +kernel
theorem dX11_isEnd_4 : decode cX11_isEnd 4 = .ok (.sipush 3000, 3) := by decide +kernel
theorem dX11_isEnd_7 : decode cX11_isEnd 7 = .ok (.if_icmp .le 7, 3) := by decide +kernel
theorem dX11_isEnd_10 : decode cX11_isEnd 10 = .ok (.iconst 1, 1) := by decide +kernel
theorem dX11_isEnd_11 : decode cX11_isEnd 11 = .ok (.goto 4, 3) := by decide +kernel
theorem dX11_isEnd_14 : decode cX11_isEnd 14 = .ok (.iconst 0, 1) := by decide +kernel
theorem dX11_isEnd_15 : decode cX11_isEnd 15 = .ok (.ireturn, 1) := by decide +kernel
theorem dX11_gang_0 : decode cX11_gang 0 = .ok (.aload_n 0, 1) := by decide +kernel
theorem dX11_gang_1 : decode cX11_gang 1 = .ok (.getfield 136, 3) := by decide +kernel
theorem dX11_gang_4 : decode cX11_gang 4 = .ok (.bipush 6, 2) := by decide +kernel
theorem dX11_gang_6 : decode cX11_gang 6 = .ok (.if_icmp .eq 14, 3) := by decide +kernel
theorem dX11_gang_9 : decode cX11_gang 9 = .ok (.iload_n 1, 1) := by decide +kernel
theorem dX11_gang_10 : decode cX11_gang 10 = .ok (.iconst 1, 1) := by decide +kernel
theorem dX11_gang_11 : decode cX11_gang 11 = .ok (.sipush 200, 3) := by decide +kernel
theorem dX11_gang_14 : decode cX11_gang 14 = .ok (.invokestatic 139, 3) := by decide +kernel
theorem dX11_gang_17 : decode cX11_gang 17 = .ok (.ifCond .ne 5, 3) := by decide +kernel
theorem dX11_gang_20 : decode cX11_gang 20 = .ok (.iconst (-1), 1) := by decide +kernel
theorem dX11_gang_21 : decode cX11_gang 21 = .ok (.ireturn, 1) := by decide +kernel
theorem dX11_gang_22 : decode cX11_gang 22 = .ok (.aload_n 0, 1) := by decide +kernel
theorem dX11_gang_23 : decode cX11_gang 23 = .ok (.getfield 9, 3) := by decide +kernel
theorem dX11_gang_26 : decode cX11_gang 26 = .ok (.aload_n 0, 1) := by decide +kernel
theorem dX11_gang_27 : decode cX11_gang 27 = .ok (.getfield 136, 3) := by decide +kernel
theorem dX11_gang_30 : decode cX11_gang 30 = .ok (.iload_n 1, 1) := by decide +kernel
theorem dX11_gang_31 : decode cX11_gang 31 = .ok (.iastore, 1) := by decide +kernel
theorem dX11_gang_32 : decode cX11_gang 32 = .ok (.aload_n 0, 1) := by decide +kernel
theorem dX11_gang_33 : decode cX11_gang 33 = .ok (.dup, 1) := by decide +kernel
theorem dX11_gang_34 : decode cX11_gang 34 = .ok (.getfield 136, 3) := by decide +kernel
theorem dX11_gang_37 : decode cX11_gang 37 = .ok (.iconst 1, 1) := by decide +kernel
theorem dX11_gang_38 : decode cX11_gang 38 = .ok (.iadd, 1) := by decide +kernel
theorem dX11_gang_39 : decode cX11_gang 39 = .ok (.putfield 136, 3) := by decide +kernel
theorem dX11_gang_42 : decode cX11_gang 42 = .ok (.aload_n 0, 1) := by decide +kernel
theorem dX11_gang_43 : decode cX11_gang 43 = .ok (.getfield 136, 3) := by decide +kernel
theorem dX11_gang_46 : decode cX11_gang 46 = .ok (.iconst 1, 1) := by decide +kernel
theorem dX11_gang_47 : decode cX11_gang 47 = .ok (.isub, 1) := by decide +kernel
theorem dX11_gang_48 : decode cX11_gang 48 = .ok (.ireturn, 1) := by decide +kernel
theorem dX11_boat_0 : decode cX11_boat 0 = .ok (.aload_n 0, 1) := by decide +kernel
theorem dX11_boat_1 : decode cX11_boat 1 = .ok (.getfield 143, 3) := by decide +kernel
theorem dX11_boat_4 : decode cX11_boat 4 = .ok (.bipush 40, 2) := by decide +kernel
theorem dX11_boat_6 : decode cX11_boat 6 = .ok (.if_icmp .eq 27, 3) := by decide +kernel
theorem dX11_boat_9 : decode cX11_boat 9 = .ok (.iload_n 1, 1) := by decide +kernel
theorem dX11_boat_10 : decode cX11_boat 10 = .ok (.aload_n 0, 1) := by decide +kernel
theorem dX11_boat_11 : decode cX11_boat 11 = .ok (.getfield 133, 3) := by decide +kernel
theorem dX11_boat_14 : decode cX11_boat 14 = .ok (.sipush 3000, 3) := by decide +kernel
theorem dX11_boat_17 : decode cX11_boat 17 = .ok (.invokestatic 139, 3) := by decide +kernel
theorem dX11_boat_20 : decode cX11_boat 20 = .ok (.ifCond .eq 13, 3) := by decide +kernel
theorem dX11_boat_23 : decode cX11_boat 23 = .ok (.iload_n 2, 1) := by decide +kernel
theorem dX11_boat_24 : decode cX11_boat 24 = .ok (.iconst 1, 1) := by decide +kernel
theorem dX11_boat_25 : decode cX11_boat 25 = .ok (.ldc 146, 2) := by decide +kernel
theorem dX11_boat_27 : decode cX11_boat 27 = .ok (.invokestatic 139, 3) := by decide +kernel
theorem dX11_boat_30 : decode cX11_boat 30 = .ok (.ifCond .ne 5, 3) := by decide +kernel
theorem dX11_boat_33 : decode cX11_boat 33 = .ok (.iconst (-1), 1) := by decide +kernel
theorem dX11_boat_34 : decode cX11_boat 34 = .ok (.ireturn, 1) := by decide +kernel
theorem dX11_boat_35 : decode cX11_boat 35 = .ok (.aload_n 0, 1) := by decide +kernel
theorem dX11_boat_36 : decode cX11_boat 36 = .ok (.getfield 25, 3) := by decide +kernel
theorem dX11_boat_39 : decode cX11_boat 39 = .ok (.aload_n 0, 1) := by decide +kernel
theorem dX11_boat_40 : decode cX11_boat 40 = .ok (.getfield 143, 3) := by decide +kernel
theorem dX11_boat_43 : decode cX11_boat 43 = .ok (.iload_n 1, 1) := by decide +kernel
theorem dX11_boat_44 : decode cX11_boat 44 = .ok (.iastore, 1) := by decide +kernel
theorem dX11_boat_45 : decode cX11_boat 45 = .ok (.aload_n 0, 1) := by decide +kernel
theorem dX11_boat_46 : decode cX11_boat 46 = .ok (.getfield 28, 3) := by decide +kernel
theorem dX11_boat_49 : decode cX11_boat 49 = .ok (.aload_n 0, 1) := by decide +kernel
theorem dX11_boat_50 : decode cX11_boat 50 = .ok (.getfield 143, 3) := by decide +kernel
theorem dX11_boat_53 : decode cX11_boat 53 = .ok (.iload_n 2, 1) := by decide +kernel
theorem dX11_boat_54 : decode cX11_boat 54 = .ok (.iastore, 1) := by decide +kernel
theorem dX11_boat_55 : decode cX11_boat 55 = .ok (.aload_n 0, 1) := by decide +kernel
theorem dX11_boat_56 : decode cX11_boat 56 = .ok (.dup, 1) := by decide +kernel
theorem dX11_boat_57 : decode cX11_boat 57 = .ok (.getfield 143, 3) := by decide +kernel
theorem dX11_boat_60 : decode cX11_boat 60 = .ok (.iconst 1, 1) := by decide +kernel
theorem dX11_boat_61 : decode cX11_boat 61 = .ok (.iadd, 1) := by decide +kernel
theorem dX11_boat_62 : decode cX11_boat 62 = .ok (.putfield 143, 3) := by decide +kernel
theorem dX11_boat_65 : decode cX11_boat 65 = .ok (.aload_n 0, 1) := by decide +kernel
theorem dX11_boat_66 : decode cX11_boat 66 = .ok (.getfield 143, 3) := by decide +kernel
theorem dX11_boat_69 : decode cX11_boat 69 = .ok (.ireturn, 1) := by decide +kernel
theorem dX11_spell_0 : decode cX11_spell 0 = .ok (.aload_n 0, 1) := by decide +kernel
theorem dX11_spell_1 : decode cX11_spell 1 = .ok (.getfield 147, 3) := by decide +kernel
theorem dX11_spell_4 : decode cX11_spell 4 = .ok (.bipush 40, 2) := by decide +kernel
theorem dX11_spell_6 : decode cX11_spell 6 = .ok (.if_icmp .eq 34, 3) := by decide +kernel
theorem dX11_spell_9 : decode cX11_spell 9 = .ok (.iload_n 1, 1) := by decide +kernel
theorem dX11_spell_10 : decode cX11_spell 10 = .ok (.iconst 0, 1) := by decide +kernel
theorem dX11_spell_11 : decode cX11_spell 11 = .ok (.iconst 2, 1) := by decide +kernel
theorem dX11_spell_12 : decode cX11_spell 12 = .ok (.invokestatic 139, 3) := by decide +kernel
theorem dX11_spell_15 : decode cX11_spell 15 = .ok (.ifCond .eq 25, 3) := by decide +kernel
theorem dX11_spell_18 : decode cX11_spell 18 = .ok (.iload_n 2, 1) := by decide +kernel
theorem dX11_spell_19 : decode cX11_spell 19 = .ok (.iconst 0, 1) := by decide +kernel
theorem dX11_spell_20 : decode cX11_spell 20 = .ok (.sipush 3000, 3) := by decide +kernel
theorem dX11_spell_23 : decode cX11_spell 23 = .ok (.invokestatic 139, 3) := by decide +kernel
theorem dX11_spell_26 : decode cX11_spell 26 = .ok (.ifCond .eq 14, 3) := by decide +kernel
theorem dX11_spell_29 : decode cX11_spell 29 = .ok (.iload_n 3, 1) := by decide +kernel
theorem dX11_spell_30 : decode cX11_spell 30 = .ok (.iload_n 2, 1) := by decide +kernel
theorem dX11_spell_31 : decode cX11_spell 31 = .ok (.sipush 3000, 3) := by decide +kernel
theorem dX11_spell_34 : decode cX11_spell 34 = .ok (.invokestatic 139, 3) := by decide +kernel
theorem dX11_spell_37 : decode cX11_spell 37 = .ok (.ifCond .ne 5, 3) := by decide +kernel
theorem dX11_spell_40 : decode cX11_spell 40 = .ok (.iconst (-1), 1) := by decide +kernel
theorem dX11_spell_41 : decode cX11_spell 41 = .ok (.ireturn, 1) := by decide +kernel
theorem dX11_spell_42 : decode cX11_spell 42 = .ok (.aload_n 0, 1) := by decide +kernel
theorem dX11_spell_43 : decode cX11_spell 43 = .ok (.getfield 31, 3) := by decide +kernel
theorem dX11_spell_46 : decode cX11_spell 46 = .ok (.aload_n 0, 1) := by decide +kernel
theorem dX11_spell_47 : decode cX11_spell 47 = .ok (.getfield 147, 3) := by decide +kernel
theorem dX11_spell_50 : decode cX11_spell 50 = .ok (.iload_n 1, 1) := by decide +kernel
theorem dX11_spell_51 : decode cX11_spell 51 = .ok (.iastore, 1) := by decide +kernel
theorem dX11_spell_52 : decode cX11_spell 52 = .ok (.aload_n 0, 1) := by decide +kernel
theorem dX11_spell_53 : decode cX11_spell 53 = .ok (.getfield 34, 3) := by decide +kernel
theorem dX11_spell_56 : decode cX11_spell 56 = .ok (.aload_n 0, 1) := by decide +kernel
theorem dX11_spell_57 : decode cX11_spell 57 = .ok (.getfield 147, 3) := by decide +kernel
theorem dX11_spell_60 : decode cX11_spell 60 = .ok (.iload_n 2, 1) := by decide +kernel
theorem dX11_spell_61 : decode cX11_spell 61 = .ok (.iastore, 1) := by decide +kernel
theorem dX11_spell_62 : decode cX11_spell 62 = .ok (.aload_n 0, 1) := by decide +kernel
theorem dX11_spell_63 : decode cX11_spell 63 = .ok (.getfield 37, 3) := by decide +kernel
theorem dX11_spell_66 : decode cX11_spell 66 = .ok (.aload_n 0, 1) := by decide +kernel
theorem dX11_spell_67 : decode cX11_spell 67 = .ok (.getfield 147, 3) := by decide +kernel
theorem dX11_spell_70 : decode cX11_spell 70 = .ok (.iload_n 3, 1) := by decide +kernel
theorem dX11_spell_71 : decode cX11_spell 71 = .ok (.iastore, 1) := by decide +kernel
theorem dX11_spell_72 : decode cX11_spell 72 = .ok (.aload_n 0, 1) := by decide +kernel
theorem dX11_spell_73 : decode cX11_spell 73 = .ok (.dup, 1) := by decide +kernel
theorem dX11_spell_74 : decode cX11_spell 74 = .ok (.getfield 147, 3) := by decide +kernel
theorem dX11_spell_77 : decode cX11_spell 77 = .ok (.iconst 1, 1) := by decide +kernel
theorem dX11_spell_78 : decode cX11_spell 78 = .ok (.iadd, 1) := by decide +kernel
theorem dX11_spell_79 : decode cX11_spell 79 = .ok (.putfield 147, 3) := by decide +kernel
theorem dX11_spell_82 : decode cX11_spell 82 = .ok (.aload_n 0, 1) := by decide +kernel
theorem dX11_spell_83 : decode cX11_spell 83 = .ok (.getfield 147, 3) := by decide +kernel
theorem dX11_spell_86 : decode cX11_spell 86 = .ok (.ireturn, 1) := by decide +kernel
theorem dX11_is_0 : decode cX11_is 0 = .ok (.iconst 0, 1) := by decide +kernel
theorem dX11_is_1 : decode cX11_is 1 = .ok (.istore_n 3, 1) := by decide +kernel
theorem dX11_is_2 : decode cX11_is 2 = .ok (.iconst 0, 1) := by decide +kernel
theorem dX11_is_3 : decode cX11_is 3 = .ok (.istore 4, 2) := by decide +kernel
theorem dX11_is_5 : decode cX11_is 5 = .ok (.iload 4, 2) := by decide +kernel
theorem dX11_is_7 : decode cX11_is 7 = .ok (.aload_n 0, 1) := by decide +kernel
theorem dX11_is_8 : decode cX11_is 8 = .ok (.getfield 147, 3) := by decide +kernel
theorem dX11_is_11 : decode cX11_is 11 = .ok (.if_icmp .ge 51, 3) := by decide +kernel
theorem dX11_is_14 : decode cX11_is 14 = .ok (.iload_n 3, 1) := by decide +kernel
theorem dX11_is_15 : decode cX11_is 15 = .ok (.ifCond .ne 35, 3) := by decide +kernel
theorem dX11_is_18 : decode cX11_is 18 = .ok (.aload_n 0, 1) := by decide +kernel
theorem dX11_is_19 : decode cX11_is 19 = .ok (.getfield 31, 3) := by decide +kernel
theorem dX11_is_22 : decode cX11_is 22 = .ok (.iload 4, 2) := by decide +kernel
theorem dX11_is_24 : decode cX11_is 24 = .ok (.iaload, 1) := by decide +kernel
theorem dX11_is_25 : decode cX11_is 25 = .ok (.iload_n 1, 1) := by decide +kernel
theorem dX11_is_26 : decode cX11_is 26 = .ok (.if_icmp .ne 28, 3) := by decide +kernel
theorem dX11_is_29 : decode cX11_is 29 = .ok (.iload_n 2, 1) := by decide +kernel
theorem dX11_is_30 : decode cX11_is 30 = .ok (.aload_n 0, 1) := by decide +kernel
theorem dX11_is_31 : decode cX11_is 31 = .ok (.getfield 34, 3) := by decide +kernel
theorem dX11_is_34 : decode cX11_is 34 = .ok (.iload 4, 2) := by decide +kernel
theorem dX11_is_36 : decode cX11_is 36 = .ok (.iaload, 1) := by decide +kernel
theorem dX11_is_37 : decode cX11_is 37 = .ok (.aload_n 0, 1) := by decide +kernel
theorem dX11_is_38 : decode cX11_is 38 = .ok (.getfield 37, 3) := by decide +kernel
theorem dX11_is_41 : decode cX11_is 41 = .ok (.iload 4, 2) := by decide +kernel
theorem dX11_is_43 : decode cX11_is 43 = .ok (.iaload, 1) := by decide +kernel
theorem dX11_is_44 : decode cX11_is 44 = .ok (.invokestatic 139, 3) := by decide +kernel
theorem dX11_is_47 : decode cX11_is 47 = .ok (.ifCond .eq 7, 3) := by decide +kernel
theorem dX11_is_50 : decode cX11_is 50 = .ok (.iconst 1, 1) := by decide +kernel
theorem dX11_is_51 : decode cX11_is 51 = .ok (.goto 4, 3) := by decide +kernel
theorem dX11_is_54 : decode cX11_is 54 = .ok (.iconst 0, 1) := by decide +kernel
theorem dX11_is_55 : decode cX11_is 55 = .ok (.istore_n 3, 1) := by decide +kernel
theorem dX11_is_56 : decode cX11_is 56 = .ok (.iinc 4 1, 3) := by decide +kernel
theorem dX11_is_59 : decode cX11_is 59 = .ok (.goto (-54), 3) := by decide +kernel
theorem dX11_is_62 : decode cX11_is 62 = .ok (.iload_n 3, 1) := by decide +kernel
theorem dX11_is_63 : decode cX11_is 63 = .ok (.ireturn, 1) := by decide +kernel
theorem dX11_without_0 : decode cX11_without 0 = .ok (.iload_n 0, 1) := by decide +kernel
theorem dX11_without_1 : decode cX11_without 1 = .ok (.tableswitch 48 4 8 #[35, 37, 39, 41, 45], 35) := by decide +kernel
theorem dX11_without_36 : decode cX11_without 36 = .ok (.iconst 2, 1) := by decide +kernel
theorem dX11_without_37 : decode cX11_without 37 = .ok (.ireturn, 1) := by decide +kernel
theorem dX11_without_38 : decode cX11_without 38 = .ok (.iconst 3, 1) := by decide +kernel
theorem dX11_without_39 : decode cX11_without 39 = .ok (.ireturn, 1) := by decide +kernel
theorem dX11_without_40 : decode cX11_without 40 = .ok (.iconst 4, 1) := by decide +kernel
theorem dX11_without_41 : decode cX11_without 41 = .ok (.ireturn, 1) := by decide +kernel
theorem dX11_without_42 : decode cX11_without 42 = .ok (.sipush 200, 3) := by decide +kernel
theorem dX11_without_45 : decode cX11_without 45 = .ok (.ireturn, 1) := by decide +kernel
theorem dX11_without_46 : decode cX11_without 46 = .ok (.bipush 10, 2) := by decide +kernel
theorem dX11_without_48 : decode cX11_without 48 = .ok (.ireturn, 1) := by decide +kernel
theorem dX11_without_49 : decode cX11_without 49 = .ok (.iconst 5, 1) := by decide +kernel
theorem dX11_without_50 : decode cX11_without 50 = .ok (.ireturn, 1) := by decide +kernel
theorem dX11_most_0 : decode cX11_most 0 = .ok (.iload_n 0, 1) := by decide +kernel
theorem dX11_most_1 : decode cX11_most 1 = .ok (.iconst 5, 1) := by decide +kernel
theorem dX11_most_2 : decode cX11_most 2 = .ok (.if_icmp .eq 9, 3) := by decide +kernel
theorem dX11_most_5 : decode cX11_most 5 = .ok (.iload_n 0, 1) := by decide +kernel
theorem dX11_most_6 : decode cX11_most 6 = .ok (.bipush 6, 2) := by decide +kernel
theorem dX11_most_8 : decode cX11_most 8 = .ok (.if_icmp .ne 8, 3) := by decide +kernel
theorem dX11_most_11 : decode cX11_most 11 = .ok (.bipush 20, 2) := by decide +kernel
theorem dX11_most_13 : decode cX11_most 13 = .ok (.goto 17, 3) := by decide +kernel
theorem dX11_most_16 : decode cX11_most 16 = .ok (.iload_n 0, 1) := by decide +kernel
theorem dX11_most_17 : decode cX11_most 17 = .ok (.bipush 7, 2) := by decide +kernel
theorem dX11_most_19 : decode cX11_most 19 = .ok (.if_icmp .ne 9, 3) := by decide +kernel
theorem dX11_most_22 : decode cX11_most 22 = .ok (.sipush 200, 3) := by decide +kernel
theorem dX11_most_25 : decode cX11_most 25 = .ok (.goto 5, 3) := by decide +kernel
theorem dX11_most_28 : decode cX11_most 28 = .ok (.bipush 99, 2) := by decide +kernel
theorem dX11_most_30 : decode cX11_most 30 = .ok (.ireturn, 1) := by decide +kernel
theorem dX11_wordOf_0 : decode cX11_wordOf 0 = .ok (.iload_n 0, 1) := by decide +kernel
theorem dX11_wordOf_1 : decode cX11_wordOf 1 = .ok (.tableswitch 72 0 8 #[51, 72, 54, 72, 57, 60, 63, 66, 69], 51) := by decide +kernel
theorem dX11_wordOf_52 : decode cX11_wordOf 52 = .ok (.ldc 150, 2) := by decide +kernel
theorem dX11_wordOf_54 : decode cX11_wordOf 54 = .ok (.areturn, 1) := by decide +kernel
theorem dX11_wordOf_55 : decode cX11_wordOf 55 = .ok (.ldc 152, 2) := by decide +kernel
theorem dX11_wordOf_57 : decode cX11_wordOf 57 = .ok (.areturn, 1) := by decide +kernel
theorem dX11_wordOf_58 : decode cX11_wordOf 58 = .ok (.ldc 154, 2) := by decide +kernel
theorem dX11_wordOf_60 : decode cX11_wordOf 60 = .ok (.areturn, 1) := by decide +kernel
theorem dX11_wordOf_61 : decode cX11_wordOf 61 = .ok (.ldc 156, 2) := by decide +kernel
theorem dX11_wordOf_63 : decode cX11_wordOf 63 = .ok (.areturn, 1) := by decide +kernel
theorem dX11_wordOf_64 : decode cX11_wordOf 64 = .ok (.ldc 158, 2) := by decide +kernel
theorem dX11_wordOf_66 : decode cX11_wordOf 66 = .ok (.areturn, 1) := by decide +kernel
theorem dX11_wordOf_67 : decode cX11_wordOf 67 = .ok (.ldc 160, 2) := by decide +kernel
theorem dX11_wordOf_69 : decode cX11_wordOf 69 = .ok (.areturn, 1) := by decide +kernel
theorem dX11_wordOf_70 : decode cX11_wordOf 70 = .ok (.ldc 162, 2) := by decide +kernel
theorem dX11_wordOf_72 : decode cX11_wordOf 72 = .ok (.areturn, 1) := by decide +kernel
theorem dX11_wordOf_73 : decode cX11_wordOf 73 = .ok (.ldc 164, 2) := by decide +kernel
theorem dX11_wordOf_75 : decode cX11_wordOf 75 = .ok (.areturn, 1) := by decide +kernel
theorem dX11_feed_0 : decode cX11_feed 0 = .ok (.aload_n 0, 1) := by decide +kernel
theorem dX11_feed_1 : decode cX11_feed 1 = .ok (.getfield 166, 3) := by decide +kernel
theorem dX11_feed_4 : decode cX11_feed 4 = .ok (.bipush 20, 2) := by decide +kernel
theorem dX11_feed_6 : decode cX11_feed 6 = .ok (.iadd, 1) := by decide +kernel
theorem dX11_feed_7 : decode cX11_feed 7 = .ok (.sipush 200, 3) := by decide +kernel
theorem dX11_feed_10 : decode cX11_feed 10 = .ok (.if_icmp .le 5, 3) := by decide +kernel
theorem dX11_feed_13 : decode cX11_feed 13 = .ok (.iconst (-1), 1) := by decide +kernel
theorem dX11_feed_14 : decode cX11_feed 14 = .ok (.ireturn, 1) := by decide +kernel
theorem dX11_feed_15 : decode cX11_feed 15 = .ok (.aload_n 0, 1) := by decide +kernel
theorem dX11_feed_16 : decode cX11_feed 16 = .ok (.iload_n 1, 1) := by decide +kernel
theorem dX11_feed_17 : decode cX11_feed 17 = .ok (.invokevirtual 169, 3) := by decide +kernel
theorem dX11_feed_20 : decode cX11_feed 20 = .ok (.aload_n 0, 1) := by decide +kernel
theorem dX11_feed_21 : decode cX11_feed 21 = .ok (.iload_n 2, 1) := by decide +kernel
theorem dX11_feed_22 : decode cX11_feed 22 = .ok (.invokevirtual 169, 3) := by decide +kernel
theorem dX11_feed_25 : decode cX11_feed 25 = .ok (.aload_n 0, 1) := by decide +kernel
theorem dX11_feed_26 : decode cX11_feed 26 = .ok (.iload_n 3, 1) := by decide +kernel
theorem dX11_feed_27 : decode cX11_feed 27 = .ok (.invokevirtual 169, 3) := by decide +kernel
theorem dX11_feed_30 : decode cX11_feed 30 = .ok (.aload_n 0, 1) := by decide +kernel
theorem dX11_feed_31 : decode cX11_feed 31 = .ok (.iload 4, 2) := by decide +kernel
theorem dX11_feed_33 : decode cX11_feed 33 = .ok (.invokevirtual 169, 3) := by decide +kernel
theorem dX11_feed_36 : decode cX11_feed 36 = .ok (.aload_n 0, 1) := by decide +kernel
theorem dX11_feed_37 : decode cX11_feed 37 = .ok (.iload 5, 2) := by decide +kernel
theorem dX11_feed_39 : decode cX11_feed 39 = .ok (.invokevirtual 169, 3) := by decide +kernel
theorem dX11_feed_42 : decode cX11_feed 42 = .ok (.aload_n 0, 1) := by decide +kernel
theorem dX11_feed_43 : decode cX11_feed 43 = .ok (.getfield 166, 3) := by decide +kernel
theorem dX11_feed_46 : decode cX11_feed 46 = .ok (.ireturn, 1) := by decide +kernel
theorem dX11_put_0 : decode cX11_put 0 = .ok (.bipush 24, 2) := by decide +kernel
theorem dX11_put_2 : decode cX11_put 2 = .ok (.istore_n 2, 1) := by decide +kernel
theorem dX11_put_3 : decode cX11_put 3 = .ok (.iload_n 2, 1) := by decide +kernel
theorem dX11_put_4 : decode cX11_put 4 = .ok (.ifCond .lt 32, 3) := by decide +kernel
theorem dX11_put_7 : decode cX11_put 7 = .ok (.aload_n 0, 1) := by decide +kernel
theorem dX11_put_8 : decode cX11_put 8 = .ok (.getfield 40, 3) := by decide +kernel
theorem dX11_put_11 : decode cX11_put 11 = .ok (.aload_n 0, 1) := by decide +kernel
theorem dX11_put_12 : decode cX11_put 12 = .ok (.getfield 166, 3) := by decide +kernel
theorem dX11_put_15 : decode cX11_put 15 = .ok (.iload_n 1, 1) := by decide +kernel
theorem dX11_put_16 : decode cX11_put 16 = .ok (.iload_n 2, 1) := by decide +kernel
theorem dX11_put_17 : decode cX11_put 17 = .ok (.ishr, 1) := by decide +kernel
theorem dX11_put_18 : decode cX11_put 18 = .ok (.i2b, 1) := by decide +kernel
theorem dX11_put_19 : decode cX11_put 19 = .ok (.bastore, 1) := by decide +kernel
theorem dX11_put_20 : decode cX11_put 20 = .ok (.aload_n 0, 1) := by decide +kernel
theorem dX11_put_21 : decode cX11_put 21 = .ok (.dup, 1) := by decide +kernel
theorem dX11_put_22 : decode cX11_put 22 = .ok (.getfield 166, 3) := by decide +kernel
theorem dX11_put_25 : decode cX11_put 25 = .ok (.iconst 1, 1) := by decide +kernel
theorem dX11_put_26 : decode cX11_put 26 = .ok (.iadd, 1) := by decide +kernel
theorem dX11_put_27 : decode cX11_put 27 = .ok (.putfield 166, 3) := by decide +kernel
theorem dX11_put_30 : decode cX11_put 30 = .ok (.iinc 2 (-8), 3) := by decide +kernel
theorem dX11_put_33 : decode cX11_put 33 = .ok (.goto (-30), 3) := by decide +kernel
theorem dX11_put_36 : decode cX11_put 36 = .ok (.return_, 1) := by decide +kernel
theorem dX11_end_0 : decode cX11_end 0 = .ok (.iload_n 1, 1) := by decide +kernel
theorem dX11_end_1 : decode cX11_end 1 = .ok (.ifCond .lt 11, 3) := by decide +kernel
theorem dX11_end_4 : decode cX11_end 4 = .ok (.iload_n 1, 1) := by decide +kernel
theorem dX11_end_5 : decode cX11_end 5 = .ok (.aload_n 0, 1) := by decide +kernel
theorem dX11_end_6 : decode cX11_end 6 = .ok (.getfield 166, 3) := by decide +kernel
theorem dX11_end_9 : decode cX11_end 9 = .ok (.if_icmp .le 5, 3) := by decide +kernel
theorem dX11_end_12 : decode cX11_end 12 = .ok (.iconst (-1), 1) := by decide +kernel
theorem dX11_end_13 : decode cX11_end 13 = .ok (.ireturn, 1) := by decide +kernel
theorem dX11_end_14 : decode cX11_end 14 = .ok (.aload_n 0, 1) := by decide +kernel
theorem dX11_end_15 : decode cX11_end 15 = .ok (.iload_n 1, 1) := by decide +kernel
theorem dX11_end_16 : decode cX11_end 16 = .ok (.putfield 166, 3) := by decide +kernel
theorem dX11_end_19 : decode cX11_end 19 = .ok (.iload_n 1, 1) := by decide +kernel
theorem dX11_end_20 : decode cX11_end 20 = .ok (.ireturn, 1) := by decide +kernel
theorem dX11_fails_0 : decode cX11_fails 0 = .ok (.aload_n 0, 1) := by decide +kernel
theorem dX11_fails_1 : decode cX11_fails 1 = .ok (.getfield 173, 3) := by decide +kernel
theorem dX11_fails_4 : decode cX11_fails 4 = .ok (.ifCond .ne 14, 3) := by decide +kernel
theorem dX11_fails_7 : decode cX11_fails 7 = .ok (.aload_n 0, 1) := by decide +kernel
theorem dX11_fails_8 : decode cX11_fails 8 = .ok (.iconst 1, 1) := by decide +kernel
theorem dX11_fails_9 : decode cX11_fails 9 = .ok (.iconst 4, 1) := by decide +kernel
theorem dX11_fails_10 : decode cX11_fails 10 = .ok (.iload_n 2, 1) := by decide +kernel
theorem dX11_fails_11 : decode cX11_fails 11 = .ok (.imul, 1) := by decide +kernel
theorem dX11_fails_12 : decode cX11_fails 12 = .ok (.iadd, 1) := by decide +kernel
theorem dX11_fails_13 : decode cX11_fails 13 = .ok (.iload_n 1, 1) := by decide +kernel
theorem dX11_fails_14 : decode cX11_fails 14 = .ok (.iadd, 1) := by decide +kernel
theorem dX11_fails_15 : decode cX11_fails 15 = .ok (.putfield 173, 3) := by decide +kernel
theorem dX11_fails_18 : decode cX11_fails 18 = .ok (.return_, 1) := by decide +kernel
theorem dX11_isOver_0 : decode cX11_isOver 0 = .ok (.aload_n 0, 1) := by decide +kernel
theorem dX11_isOver_1 : decode cX11_isOver 1 = .ok (.getfield 176, 3) := by decide +kernel
theorem dX11_isOver_4 : decode cX11_isOver 4 = .ok (.aload_n 0, 1) := by decide +kernel
theorem dX11_isOver_5 : decode cX11_isOver 5 = .ok (.getfield 166, 3) := by decide +kernel
theorem dX11_isOver_8 : decode cX11_isOver 8 = .ok (.if_icmp .ge 30, 3) := by decide +kernel
theorem dX11_isOver_11 : decode cX11_isOver 11 = .ok (.aload_n 0, 1) := by decide +kernel
theorem dX11_isOver_12 : decode cX11_isOver 12 = .ok (.getfield 40, 3) := by decide +kernel
theorem dX11_isOver_15 : decode cX11_isOver 15 = .ok (.aload_n 0, 1) := by decide +kernel
theorem dX11_isOver_16 : decode cX11_isOver 16 = .ok (.getfield 176, 3) := by decide +kernel
theorem dX11_isOver_19 : decode cX11_isOver 19 = .ok (.baload, 1) := by decide +kernel
theorem dX11_isOver_20 : decode cX11_isOver 20 = .ok (.bipush 32, 2) := by decide +kernel
theorem dX11_isOver_22 : decode cX11_isOver 22 = .ok (.if_icmp .ne 16, 3) := by decide +kernel
theorem dX11_isOver_25 : decode cX11_isOver 25 = .ok (.aload_n 0, 1) := by decide +kernel
theorem dX11_isOver_26 : decode cX11_isOver 26 = .ok (.dup, 1) := by decide +kernel
theorem dX11_isOver_27 : decode cX11_isOver 27 = .ok (.getfield 176, 3) := by decide +kernel
theorem dX11_isOver_30 : decode cX11_isOver 30 = .ok (.iconst 1, 1) := by decide +kernel
theorem dX11_isOver_31 : decode cX11_isOver 31 = .ok (.iadd, 1) := by decide +kernel
theorem dX11_isOver_32 : decode cX11_isOver 32 = .ok (.putfield 176, 3) := by decide +kernel
theorem dX11_isOver_35 : decode cX11_isOver 35 = .ok (.goto (-35), 3) := by decide +kernel
theorem dX11_isOver_38 : decode cX11_isOver 38 = .ok (.aload_n 0, 1) := by decide +kernel
theorem dX11_isOver_39 : decode cX11_isOver 39 = .ok (.aload_n 0, 1) := by decide +kernel
theorem dX11_isOver_40 : decode cX11_isOver 40 = .ok (.getfield 176, 3) := by decide +kernel
theorem dX11_isOver_43 : decode cX11_isOver 43 = .ok (.putfield 179, 3) := by decide +kernel
theorem dX11_isOver_46 : decode cX11_isOver 46 = .ok (.aload_n 0, 1) := by decide +kernel
theorem dX11_isOver_47 : decode cX11_isOver 47 = .ok (.getfield 176, 3) := by decide +kernel
theorem dX11_isOver_50 : decode cX11_isOver 50 = .ok (.aload_n 0, 1) := by decide +kernel
theorem dX11_isOver_51 : decode cX11_isOver 51 = .ok (.getfield 166, 3) := by decide +kernel
theorem dX11_isOver_54 : decode cX11_isOver 54 = .ok (.if_icmp .ne 7, 3) := by decide +kernel
theorem dX11_isOver_57 : decode cX11_isOver 57 = .ok (.iconst 1, 1) := by decide +kernel
theorem dX11_isOver_58 : decode cX11_isOver 58 = .ok (.goto 4, 3) := by decide +kernel
theorem dX11_isOver_61 : decode cX11_isOver 61 = .ok (.iconst 0, 1) := by decide +kernel
theorem dX11_isOver_62 : decode cX11_isOver 62 = .ok (.ireturn, 1) := by decide +kernel
theorem dX11_isWord_0 : decode cX11_isWord 0 = .ok (.aload_n 1, 1) := by decide +kernel
theorem dX11_isWord_1 : decode cX11_isWord 1 = .ok (.invokevirtual 182, 3) := by decide +kernel
theorem dX11_isWord_4 : decode cX11_isWord 4 = .ok (.ifCond .le 23, 3) := by decide +kernel
theorem dX11_isWord_7 : decode cX11_isWord 7 = .ok (.aload_n 0, 1) := by decide +kernel
theorem dX11_isWord_8 : decode cX11_isWord 8 = .ok (.getfield 176, 3) := by decide +kernel
theorem dX11_isWord_11 : decode cX11_isWord 11 = .ok (.aload_n 0, 1) := by decide +kernel
theorem dX11_isWord_12 : decode cX11_isWord 12 = .ok (.getfield 179, 3) := by decide +kernel
theorem dX11_isWord_15 : decode cX11_isWord 15 = .ok (.isub, 1) := by decide +kernel
theorem dX11_isWord_16 : decode cX11_isWord 16 = .ok (.aload_n 1, 1) := by decide +kernel
theorem dX11_isWord_17 : decode cX11_isWord 17 = .ok (.invokevirtual 182, 3) := by decide +kernel
theorem dX11_isWord_20 : decode cX11_isWord 20 = .ok (.if_icmp .ne 7, 3) := by decide +kernel
theorem dX11_isWord_23 : decode cX11_isWord 23 = .ok (.iconst 1, 1) := by decide +kernel
theorem dX11_isWord_24 : decode cX11_isWord 24 = .ok (.goto 4, 3) := by decide +kernel
theorem dX11_isWord_27 : decode cX11_isWord 27 = .ok (.iconst 0, 1) := by decide +kernel
theorem dX11_isWord_28 : decode cX11_isWord 28 = .ok (.istore_n 2, 1) := by decide +kernel
theorem dX11_isWord_29 : decode cX11_isWord 29 = .ok (.iconst 0, 1) := by decide +kernel
theorem dX11_isWord_30 : decode cX11_isWord 30 = .ok (.istore_n 3, 1) := by decide +kernel
theorem dX11_isWord_31 : decode cX11_isWord 31 = .ok (.iload_n 3, 1) := by decide +kernel
theorem dX11_isWord_32 : decode cX11_isWord 32 = .ok (.aload_n 1, 1) := by decide +kernel
theorem dX11_isWord_33 : decode cX11_isWord 33 = .ok (.invokevirtual 182, 3) := by decide +kernel
theorem dX11_isWord_36 : decode cX11_isWord 36 = .ok (.if_icmp .ge 38, 3) := by decide +kernel
theorem dX11_isWord_39 : decode cX11_isWord 39 = .ok (.iload_n 2, 1) := by decide +kernel
theorem dX11_isWord_40 : decode cX11_isWord 40 = .ok (.ifCond .eq 34, 3) := by decide +kernel
theorem dX11_isWord_43 : decode cX11_isWord 43 = .ok (.aload_n 0, 1) := by decide +kernel
theorem dX11_isWord_44 : decode cX11_isWord 44 = .ok (.getfield 40, 3) := by decide +kernel
theorem dX11_isWord_47 : decode cX11_isWord 47 = .ok (.aload_n 0, 1) := by decide +kernel
theorem dX11_isWord_48 : decode cX11_isWord 48 = .ok (.getfield 179, 3) := by decide +kernel
theorem dX11_isWord_51 : decode cX11_isWord 51 = .ok (.iload_n 3, 1) := by decide +kernel
theorem dX11_isWord_52 : decode cX11_isWord 52 = .ok (.iadd, 1) := by decide +kernel
theorem dX11_isWord_53 : decode cX11_isWord 53 = .ok (.baload, 1) := by decide +kernel
theorem dX11_isWord_54 : decode cX11_isWord 54 = .ok (.aload_n 1, 1) := by decide +kernel
theorem dX11_isWord_55 : decode cX11_isWord 55 = .ok (.iload_n 3, 1) := by decide +kernel
theorem dX11_isWord_56 : decode cX11_isWord 56 = .ok (.invokevirtual 188, 3) := by decide +kernel
theorem dX11_isWord_59 : decode cX11_isWord 59 = .ok (.if_icmp .ne 7, 3) := by decide +kernel
theorem dX11_isWord_62 : decode cX11_isWord 62 = .ok (.iconst 1, 1) := by decide +kernel
theorem dX11_isWord_63 : decode cX11_isWord 63 = .ok (.goto 4, 3) := by decide +kernel
theorem dX11_isWord_66 : decode cX11_isWord 66 = .ok (.iconst 0, 1) := by decide +kernel
theorem dX11_isWord_67 : decode cX11_isWord 67 = .ok (.istore_n 2, 1) := by decide +kernel
theorem dX11_isWord_68 : decode cX11_isWord 68 = .ok (.iinc 3 1, 3) := by decide +kernel
theorem dX11_isWord_71 : decode cX11_isWord 71 = .ok (.goto (-40), 3) := by decide +kernel
theorem dX11_isWord_74 : decode cX11_isWord 74 = .ok (.iload_n 2, 1) := by decide +kernel
theorem dX11_isWord_75 : decode cX11_isWord 75 = .ok (.ireturn, 1) := by decide +kernel
theorem dX11_number_0 : decode cX11_number 0 = .ok (.aload_n 0, 1) := by decide +kernel
theorem dX11_number_1 : decode cX11_number 1 = .ok (.getfield 173, 3) := by decide +kernel
theorem dX11_number_4 : decode cX11_number 4 = .ok (.ifCond .le 5, 3) := by decide +kernel
theorem dX11_number_7 : decode cX11_number 7 = .ok (.iconst 0, 1) := by decide +kernel
theorem dX11_number_8 : decode cX11_number 8 = .ok (.ireturn, 1) := by decide +kernel
theorem dX11_number_9 : decode cX11_number 9 = .ok (.aload_n 0, 1) := by decide +kernel
theorem dX11_number_10 : decode cX11_number 10 = .ok (.invokevirtual 192, 3) := by decide +kernel
theorem dX11_number_13 : decode cX11_number 13 = .ok (.pop, 1) := by decide +kernel
theorem dX11_number_14 : decode cX11_number 14 = .ok (.iconst 0, 1) := by decide +kernel
theorem dX11_number_15 : decode cX11_number 15 = .ok (.istore_n 2, 1) := by decide +kernel
theorem dX11_number_16 : decode cX11_number 16 = .ok (.aload_n 0, 1) := by decide +kernel
theorem dX11_number_17 : decode cX11_number 17 = .ok (.getfield 176, 3) := by decide +kernel
theorem dX11_number_20 : decode cX11_number 20 = .ok (.aload_n 0, 1) := by decide +kernel
theorem dX11_number_21 : decode cX11_number 21 = .ok (.getfield 166, 3) := by decide +kernel
theorem dX11_number_24 : decode cX11_number 24 = .ok (.if_icmp .ge 81, 3) := by decide +kernel
theorem dX11_number_27 : decode cX11_number 27 = .ok (.aload_n 0, 1) := by decide +kernel
theorem dX11_number_28 : decode cX11_number 28 = .ok (.getfield 40, 3) := by decide +kernel
theorem dX11_number_31 : decode cX11_number 31 = .ok (.aload_n 0, 1) := by decide +kernel
theorem dX11_number_32 : decode cX11_number 32 = .ok (.getfield 176, 3) := by decide +kernel
theorem dX11_number_35 : decode cX11_number 35 = .ok (.baload, 1) := by decide +kernel
theorem dX11_number_36 : decode cX11_number 36 = .ok (.bipush 48, 2) := by decide +kernel
theorem dX11_number_38 : decode cX11_number 38 = .ok (.if_icmp .lt 67, 3) := by decide +kernel
theorem dX11_number_41 : decode cX11_number 41 = .ok (.aload_n 0, 1) := by decide +kernel
theorem dX11_number_42 : decode cX11_number 42 = .ok (.getfield 40, 3) := by decide +kernel
theorem dX11_number_45 : decode cX11_number 45 = .ok (.aload_n 0, 1) := by decide +kernel
theorem dX11_number_46 : decode cX11_number 46 = .ok (.getfield 176, 3) := by decide +kernel
theorem dX11_number_49 : decode cX11_number 49 = .ok (.baload, 1) := by decide +kernel
theorem dX11_number_50 : decode cX11_number 50 = .ok (.bipush 57, 2) := by decide +kernel
theorem dX11_number_52 : decode cX11_number 52 = .ok (.if_icmp .gt 53, 3) := by decide +kernel
theorem dX11_number_55 : decode cX11_number 55 = .ok (.aload_n 0, 1) := by decide +kernel
theorem dX11_number_56 : decode cX11_number 56 = .ok (.getfield 176, 3) := by decide +kernel
theorem dX11_number_59 : decode cX11_number 59 = .ok (.aload_n 0, 1) := by decide +kernel
theorem dX11_number_60 : decode cX11_number 60 = .ok (.getfield 179, 3) := by decide +kernel
theorem dX11_number_63 : decode cX11_number 63 = .ok (.isub, 1) := by decide +kernel
theorem dX11_number_64 : decode cX11_number 64 = .ok (.iconst 3, 1) := by decide +kernel
theorem dX11_number_65 : decode cX11_number 65 = .ok (.if_icmp .ge 23, 3) := by decide +kernel
theorem dX11_number_68 : decode cX11_number 68 = .ok (.bipush 10, 2) := by decide +kernel
theorem dX11_number_70 : decode cX11_number 70 = .ok (.iload_n 2, 1) := by decide +kernel
theorem dX11_number_71 : decode cX11_number 71 = .ok (.imul, 1) := by decide +kernel
theorem dX11_number_72 : decode cX11_number 72 = .ok (.aload_n 0, 1) := by decide +kernel
theorem dX11_number_73 : decode cX11_number 73 = .ok (.getfield 40, 3) := by decide +kernel
theorem dX11_number_76 : decode cX11_number 76 = .ok (.aload_n 0, 1) := by decide +kernel
theorem dX11_number_77 : decode cX11_number 77 = .ok (.getfield 176, 3) := by decide +kernel
theorem dX11_number_80 : decode cX11_number 80 = .ok (.baload, 1) := by decide +kernel
theorem dX11_number_81 : decode cX11_number 81 = .ok (.iadd, 1) := by decide +kernel
theorem dX11_number_82 : decode cX11_number 82 = .ok (.bipush 48, 2) := by decide +kernel
theorem dX11_number_84 : decode cX11_number 84 = .ok (.isub, 1) := by decide +kernel
theorem dX11_number_85 : decode cX11_number 85 = .ok (.goto 6, 3) := by decide +kernel
theorem dX11_number_88 : decode cX11_number 88 = .ok (.sipush 10000, 3) := by decide +kernel
theorem dX11_number_91 : decode cX11_number 91 = .ok (.istore_n 2, 1) := by decide +kernel
theorem dX11_number_92 : decode cX11_number 92 = .ok (.aload_n 0, 1) := by decide +kernel
theorem dX11_number_93 : decode cX11_number 93 = .ok (.dup, 1) := by decide +kernel
theorem dX11_number_94 : decode cX11_number 94 = .ok (.getfield 176, 3) := by decide +kernel
theorem dX11_number_97 : decode cX11_number 97 = .ok (.iconst 1, 1) := by decide +kernel
theorem dX11_number_98 : decode cX11_number 98 = .ok (.iadd, 1) := by decide +kernel
theorem dX11_number_99 : decode cX11_number 99 = .ok (.putfield 176, 3) := by decide +kernel
theorem dX11_number_102 : decode cX11_number 102 = .ok (.goto (-86), 3) := by decide +kernel
theorem dX11_number_105 : decode cX11_number 105 = .ok (.aload_n 0, 1) := by decide +kernel
theorem dX11_number_106 : decode cX11_number 106 = .ok (.getfield 176, 3) := by decide +kernel
theorem dX11_number_109 : decode cX11_number 109 = .ok (.aload_n 0, 1) := by decide +kernel
theorem dX11_number_110 : decode cX11_number 110 = .ok (.getfield 179, 3) := by decide +kernel
theorem dX11_number_113 : decode cX11_number 113 = .ok (.if_icmp .ne 15, 3) := by decide +kernel
theorem dX11_number_116 : decode cX11_number 116 = .ok (.aload_n 0, 1) := by decide +kernel
theorem dX11_number_117 : decode cX11_number 117 = .ok (.iconst 0, 1) := by decide +kernel
theorem dX11_number_118 : decode cX11_number 118 = .ok (.aload_n 0, 1) := by decide +kernel
theorem dX11_number_119 : decode cX11_number 119 = .ok (.getfield 179, 3) := by decide +kernel
theorem dX11_number_122 : decode cX11_number 122 = .ok (.invokevirtual 196, 3) := by decide +kernel
theorem dX11_number_125 : decode cX11_number 125 = .ok (.goto 21, 3) := by decide +kernel
theorem dX11_number_128 : decode cX11_number 128 = .ok (.iload_n 2, 1) := by decide +kernel
theorem dX11_number_129 : decode cX11_number 129 = .ok (.iconst 1, 1) := by decide +kernel
theorem dX11_number_130 : decode cX11_number 130 = .ok (.iload_n 1, 1) := by decide +kernel
theorem dX11_number_131 : decode cX11_number 131 = .ok (.invokestatic 139, 3) := by decide +kernel
theorem dX11_number_134 : decode cX11_number 134 = .ok (.ifCond .ne 12, 3) := by decide +kernel
theorem dX11_number_137 : decode cX11_number 137 = .ok (.aload_n 0, 1) := by decide +kernel
theorem dX11_number_138 : decode cX11_number 138 = .ok (.iconst 1, 1) := by decide +kernel
theorem dX11_number_139 : decode cX11_number 139 = .ok (.aload_n 0, 1) := by decide +kernel
theorem dX11_number_140 : decode cX11_number 140 = .ok (.getfield 179, 3) := by decide +kernel
theorem dX11_number_143 : decode cX11_number 143 = .ok (.invokevirtual 196, 3) := by decide +kernel
theorem dX11_number_146 : decode cX11_number 146 = .ok (.iload_n 2, 1) := by decide +kernel
theorem dX11_number_147 : decode cX11_number 147 = .ok (.ireturn, 1) := by decide +kernel
theorem dX11_clause_0 : decode cX11_clause 0 = .ok (.aload_n 0, 1) := by decide +kernel
theorem dX11_clause_1 : decode cX11_clause 1 = .ok (.invokevirtual 192, 3) := by decide +kernel
theorem dX11_clause_4 : decode cX11_clause 4 = .ok (.pop, 1) := by decide +kernel
theorem dX11_clause_5 : decode cX11_clause 5 = .ok (.aload_n 0, 1) := by decide +kernel
theorem dX11_clause_6 : decode cX11_clause 6 = .ok (.getfield 176, 3) := by decide +kernel
theorem dX11_clause_9 : decode cX11_clause 9 = .ok (.aload_n 0, 1) := by decide +kernel
theorem dX11_clause_10 : decode cX11_clause 10 = .ok (.getfield 166, 3) := by decide +kernel
theorem dX11_clause_13 : decode cX11_clause 13 = .ok (.if_icmp .ge 44, 3) := by decide +kernel
theorem dX11_clause_16 : decode cX11_clause 16 = .ok (.aload_n 0, 1) := by decide +kernel
theorem dX11_clause_17 : decode cX11_clause 17 = .ok (.getfield 40, 3) := by decide +kernel
theorem dX11_clause_20 : decode cX11_clause 20 = .ok (.aload_n 0, 1) := by decide +kernel
theorem dX11_clause_21 : decode cX11_clause 21 = .ok (.getfield 176, 3) := by decide +kernel
theorem dX11_clause_24 : decode cX11_clause 24 = .ok (.baload, 1) := by decide +kernel
theorem dX11_clause_25 : decode cX11_clause 25 = .ok (.bipush 97, 2) := by decide +kernel
theorem dX11_clause_27 : decode cX11_clause 27 = .ok (.if_icmp .lt 30, 3) := by decide +kernel
theorem dX11_clause_30 : decode cX11_clause 30 = .ok (.aload_n 0, 1) := by decide +kernel
theorem dX11_clause_31 : decode cX11_clause 31 = .ok (.getfield 40, 3) := by decide +kernel
theorem dX11_clause_34 : decode cX11_clause 34 = .ok (.aload_n 0, 1) := by decide +kernel
theorem dX11_clause_35 : decode cX11_clause 35 = .ok (.getfield 176, 3) := by decide +kernel
theorem dX11_clause_38 : decode cX11_clause 38 = .ok (.baload, 1) := by decide +kernel
theorem dX11_clause_39 : decode cX11_clause 39 = .ok (.bipush 122, 2) := by decide +kernel
theorem dX11_clause_41 : decode cX11_clause 41 = .ok (.if_icmp .gt 16, 3) := by decide +kernel
theorem dX11_clause_44 : decode cX11_clause 44 = .ok (.aload_n 0, 1) := by decide +kernel
theorem dX11_clause_45 : decode cX11_clause 45 = .ok (.dup, 1) := by decide +kernel
theorem dX11_clause_46 : decode cX11_clause 46 = .ok (.getfield 176, 3) := by decide +kernel
theorem dX11_clause_49 : decode cX11_clause 49 = .ok (.iconst 1, 1) := by decide +kernel
theorem dX11_clause_50 : decode cX11_clause 50 = .ok (.iadd, 1) := by decide +kernel
theorem dX11_clause_51 : decode cX11_clause 51 = .ok (.putfield 176, 3) := by decide +kernel
theorem dX11_clause_54 : decode cX11_clause 54 = .ok (.goto (-49), 3) := by decide +kernel
theorem dX11_clause_57 : decode cX11_clause 57 = .ok (.iconst 0, 1) := by decide +kernel
theorem dX11_clause_58 : decode cX11_clause 58 = .ok (.istore_n 1, 1) := by decide +kernel
theorem dX11_clause_59 : decode cX11_clause 59 = .ok (.iload_n 1, 1) := by decide +kernel
theorem dX11_clause_60 : decode cX11_clause 60 = .ok (.bipush 9, 2) := by decide +kernel
theorem dX11_clause_62 : decode cX11_clause 62 = .ok (.if_icmp .ge 20, 3) := by decide +kernel
theorem dX11_clause_65 : decode cX11_clause 65 = .ok (.aload_n 0, 1) := by decide +kernel
theorem dX11_clause_66 : decode cX11_clause 66 = .ok (.iload_n 1, 1) := by decide +kernel
theorem dX11_clause_67 : decode cX11_clause 67 = .ok (.invokestatic 200, 3) := by decide +kernel
theorem dX11_clause_70 : decode cX11_clause 70 = .ok (.invokevirtual 204, 3) := by decide +kernel
theorem dX11_clause_73 : decode cX11_clause 73 = .ok (.ifCond .ne 9, 3) := by decide +kernel
theorem dX11_clause_76 : decode cX11_clause 76 = .ok (.iinc 1 1, 3) := by decide +kernel
theorem dX11_clause_79 : decode cX11_clause 79 = .ok (.goto (-20), 3) := by decide +kernel
theorem dX11_clause_82 : decode cX11_clause 82 = .ok (.iload_n 1, 1) := by decide +kernel
theorem dX11_clause_83 : decode cX11_clause 83 = .ok (.bipush 9, 2) := by decide +kernel
theorem dX11_clause_85 : decode cX11_clause 85 = .ok (.if_icmp .ne 13, 3) := by decide +kernel
theorem dX11_clause_88 : decode cX11_clause 88 = .ok (.aload_n 0, 1) := by decide +kernel
theorem dX11_clause_89 : decode cX11_clause 89 = .ok (.iconst 0, 1) := by decide +kernel
theorem dX11_clause_90 : decode cX11_clause 90 = .ok (.aload_n 0, 1) := by decide +kernel
theorem dX11_clause_91 : decode cX11_clause 91 = .ok (.getfield 179, 3) := by decide +kernel
theorem dX11_clause_94 : decode cX11_clause 94 = .ok (.invokevirtual 196, 3) := by decide +kernel
theorem dX11_clause_97 : decode cX11_clause 97 = .ok (.return_, 1) := by decide +kernel
theorem dX11_clause_98 : decode cX11_clause 98 = .ok (.aload_n 0, 1) := by decide +kernel
theorem dX11_clause_99 : decode cX11_clause 99 = .ok (.getfield 50, 3) := by decide +kernel
theorem dX11_clause_102 : decode cX11_clause 102 = .ok (.iload_n 1, 1) := by decide +kernel
theorem dX11_clause_103 : decode cX11_clause 103 = .ok (.baload, 1) := by decide +kernel
theorem dX11_clause_104 : decode cX11_clause 104 = .ok (.ifCond .eq 13, 3) := by decide +kernel
theorem dX11_clause_107 : decode cX11_clause 107 = .ok (.aload_n 0, 1) := by decide +kernel
theorem dX11_clause_108 : decode cX11_clause 108 = .ok (.iconst 2, 1) := by decide +kernel
theorem dX11_clause_109 : decode cX11_clause 109 = .ok (.aload_n 0, 1) := by decide +kernel
theorem dX11_clause_110 : decode cX11_clause 110 = .ok (.getfield 179, 3) := by decide +kernel
theorem dX11_clause_113 : decode cX11_clause 113 = .ok (.invokevirtual 196, 3) := by decide +kernel
theorem dX11_clause_116 : decode cX11_clause 116 = .ok (.return_, 1) := by decide +kernel
theorem dX11_clause_117 : decode cX11_clause 117 = .ok (.aload_n 0, 1) := by decide +kernel
theorem dX11_clause_118 : decode cX11_clause 118 = .ok (.getfield 50, 3) := by decide +kernel
theorem dX11_clause_121 : decode cX11_clause 121 = .ok (.iload_n 1, 1) := by decide +kernel
theorem dX11_clause_122 : decode cX11_clause 122 = .ok (.iconst 1, 1) := by decide +kernel
theorem dX11_clause_123 : decode cX11_clause 123 = .ok (.bastore, 1) := by decide +kernel
theorem dX11_clause_124 : decode cX11_clause 124 = .ok (.aload_n 0, 1) := by decide +kernel
theorem dX11_clause_125 : decode cX11_clause 125 = .ok (.getfield 47, 3) := by decide +kernel
theorem dX11_clause_128 : decode cX11_clause 128 = .ok (.iload_n 1, 1) := by decide +kernel
theorem dX11_clause_129 : decode cX11_clause 129 = .ok (.aload_n 0, 1) := by decide +kernel
theorem dX11_clause_130 : decode cX11_clause 130 = .ok (.iload_n 1, 1) := by decide +kernel
theorem dX11_clause_131 : decode cX11_clause 131 = .ok (.invokestatic 208, 3) := by decide +kernel
theorem dX11_clause_134 : decode cX11_clause 134 = .ok (.invokevirtual 210, 3) := by decide +kernel
theorem dX11_clause_137 : decode cX11_clause 137 = .ok (.iastore, 1) := by decide +kernel
theorem dX11_clause_138 : decode cX11_clause 138 = .ok (.iload_n 1, 1) := by decide +kernel
theorem dX11_clause_139 : decode cX11_clause 139 = .ok (.iconst 4, 1) := by decide +kernel
theorem dX11_clause_140 : decode cX11_clause 140 = .ok (.if_icmp .ge 19, 3) := by decide +kernel
theorem dX11_clause_143 : decode cX11_clause 143 = .ok (.aload_n 0, 1) := by decide +kernel
theorem dX11_clause_144 : decode cX11_clause 144 = .ok (.getfield 47, 3) := by decide +kernel
theorem dX11_clause_147 : decode cX11_clause 147 = .ok (.iload_n 1, 1) := by decide +kernel
theorem dX11_clause_148 : decode cX11_clause 148 = .ok (.iconst 1, 1) := by decide +kernel
theorem dX11_clause_149 : decode cX11_clause 149 = .ok (.iadd, 1) := by decide +kernel
theorem dX11_clause_150 : decode cX11_clause 150 = .ok (.aload_n 0, 1) := by decide +kernel
theorem dX11_clause_151 : decode cX11_clause 151 = .ok (.iload_n 1, 1) := by decide +kernel
theorem dX11_clause_152 : decode cX11_clause 152 = .ok (.invokestatic 208, 3) := by decide +kernel
theorem dX11_clause_155 : decode cX11_clause 155 = .ok (.invokevirtual 210, 3) := by decide +kernel
theorem dX11_clause_158 : decode cX11_clause 158 = .ok (.iastore, 1) := by decide +kernel
theorem dX11_clause_159 : decode cX11_clause 159 = .ok (.return_, 1) := by decide +kernel
theorem dX11_table_0 : decode cX11_table 0 = .ok (.aload_n 0, 1) := by decide +kernel
theorem dX11_table_1 : decode cX11_table 1 = .ok (.iconst 0, 1) := by decide +kernel
theorem dX11_table_2 : decode cX11_table 2 = .ok (.putfield 176, 3) := by decide +kernel
theorem dX11_table_5 : decode cX11_table 5 = .ok (.aload_n 0, 1) := by decide +kernel
theorem dX11_table_6 : decode cX11_table 6 = .ok (.iconst 0, 1) := by decide +kernel
theorem dX11_table_7 : decode cX11_table 7 = .ok (.putfield 173, 3) := by decide +kernel
theorem dX11_table_10 : decode cX11_table 10 = .ok (.iconst 0, 1) := by decide +kernel
theorem dX11_table_11 : decode cX11_table 11 = .ok (.istore_n 1, 1) := by decide +kernel
theorem dX11_table_12 : decode cX11_table 12 = .ok (.iconst 0, 1) := by decide +kernel
theorem dX11_table_13 : decode cX11_table 13 = .ok (.istore_n 2, 1) := by decide +kernel
theorem dX11_table_14 : decode cX11_table 14 = .ok (.iload_n 2, 1) := by decide +kernel
theorem dX11_table_15 : decode cX11_table 15 = .ok (.bipush 9, 2) := by decide +kernel
theorem dX11_table_17 : decode cX11_table 17 = .ok (.if_icmp .ge 26, 3) := by decide +kernel
theorem dX11_table_20 : decode cX11_table 20 = .ok (.aload_n 0, 1) := by decide +kernel
theorem dX11_table_21 : decode cX11_table 21 = .ok (.getfield 50, 3) := by decide +kernel
theorem dX11_table_24 : decode cX11_table 24 = .ok (.iload_n 2, 1) := by decide +kernel
theorem dX11_table_25 : decode cX11_table 25 = .ok (.iconst 0, 1) := by decide +kernel
theorem dX11_table_26 : decode cX11_table 26 = .ok (.bastore, 1) := by decide +kernel
theorem dX11_table_27 : decode cX11_table 27 = .ok (.aload_n 0, 1) := by decide +kernel
theorem dX11_table_28 : decode cX11_table 28 = .ok (.getfield 47, 3) := by decide +kernel
theorem dX11_table_31 : decode cX11_table 31 = .ok (.iload_n 2, 1) := by decide +kernel
theorem dX11_table_32 : decode cX11_table 32 = .ok (.iload_n 2, 1) := by decide +kernel
theorem dX11_table_33 : decode cX11_table 33 = .ok (.invokestatic 125, 3) := by decide +kernel
theorem dX11_table_36 : decode cX11_table 36 = .ok (.iastore, 1) := by decide +kernel
theorem dX11_table_37 : decode cX11_table 37 = .ok (.iinc 2 1, 3) := by decide +kernel
theorem dX11_table_40 : decode cX11_table 40 = .ok (.goto (-26), 3) := by decide +kernel
theorem dX11_table_43 : decode cX11_table 43 = .ok (.aload_n 0, 1) := by decide +kernel
theorem dX11_table_44 : decode cX11_table 44 = .ok (.invokevirtual 192, 3) := by decide +kernel
theorem dX11_table_47 : decode cX11_table 47 = .ok (.ifCond .ne 7, 3) := by decide +kernel
theorem dX11_table_50 : decode cX11_table 50 = .ok (.iconst 1, 1) := by decide +kernel
theorem dX11_table_51 : decode cX11_table 51 = .ok (.goto 4, 3) := by decide +kernel
theorem dX11_table_54 : decode cX11_table 54 = .ok (.iconst 0, 1) := by decide +kernel
theorem dX11_table_55 : decode cX11_table 55 = .ok (.istore_n 2, 1) := by decide +kernel
theorem dX11_table_56 : decode cX11_table 56 = .ok (.iload_n 2, 1) := by decide +kernel
theorem dX11_table_57 : decode cX11_table 57 = .ok (.ifCond .eq 77, 3) := by decide +kernel
theorem dX11_table_60 : decode cX11_table 60 = .ok (.aload_n 0, 1) := by decide +kernel
theorem dX11_table_61 : decode cX11_table 61 = .ok (.getfield 173, 3) := by decide +kernel
theorem dX11_table_64 : decode cX11_table 64 = .ok (.ifCond .ne 70, 3) := by decide +kernel
theorem dX11_table_67 : decode cX11_table 67 = .ok (.aload_n 0, 1) := by decide +kernel
theorem dX11_table_68 : decode cX11_table 68 = .ok (.invokevirtual 213, 3) := by decide +kernel
theorem dX11_table_71 : decode cX11_table 71 = .ok (.iinc 1 1, 3) := by decide +kernel
theorem dX11_table_74 : decode cX11_table 74 = .ok (.aload_n 0, 1) := by decide +kernel
theorem dX11_table_75 : decode cX11_table 75 = .ok (.getfield 173, 3) := by decide +kernel
theorem dX11_table_78 : decode cX11_table 78 = .ok (.ifCond .ne 14, 3) := by decide +kernel
theorem dX11_table_81 : decode cX11_table 81 = .ok (.aload_n 0, 1) := by decide +kernel
theorem dX11_table_82 : decode cX11_table 82 = .ok (.invokevirtual 192, 3) := by decide +kernel
theorem dX11_table_85 : decode cX11_table 85 = .ok (.ifCond .ne 7, 3) := by decide +kernel
theorem dX11_table_88 : decode cX11_table 88 = .ok (.iconst 1, 1) := by decide +kernel
theorem dX11_table_89 : decode cX11_table 89 = .ok (.goto 4, 3) := by decide +kernel
theorem dX11_table_92 : decode cX11_table 92 = .ok (.iconst 0, 1) := by decide +kernel
theorem dX11_table_93 : decode cX11_table 93 = .ok (.istore_n 2, 1) := by decide +kernel
theorem dX11_table_94 : decode cX11_table 94 = .ok (.iload_n 2, 1) := by decide +kernel
theorem dX11_table_95 : decode cX11_table 95 = .ok (.ifCond .eq (-39), 3) := by decide +kernel
theorem dX11_table_98 : decode cX11_table 98 = .ok (.aload_n 0, 1) := by decide +kernel
theorem dX11_table_99 : decode cX11_table 99 = .ok (.getfield 40, 3) := by decide +kernel
theorem dX11_table_102 : decode cX11_table 102 = .ok (.aload_n 0, 1) := by decide +kernel
theorem dX11_table_103 : decode cX11_table 103 = .ok (.getfield 176, 3) := by decide +kernel
theorem dX11_table_106 : decode cX11_table 106 = .ok (.baload, 1) := by decide +kernel
theorem dX11_table_107 : decode cX11_table 107 = .ok (.bipush 59, 2) := by decide +kernel
theorem dX11_table_109 : decode cX11_table 109 = .ok (.if_icmp .eq 12, 3) := by decide +kernel
theorem dX11_table_112 : decode cX11_table 112 = .ok (.aload_n 0, 1) := by decide +kernel
theorem dX11_table_113 : decode cX11_table 113 = .ok (.iconst 0, 1) := by decide +kernel
theorem dX11_table_114 : decode cX11_table 114 = .ok (.aload_n 0, 1) := by decide +kernel
theorem dX11_table_115 : decode cX11_table 115 = .ok (.getfield 176, 3) := by decide +kernel
theorem dX11_table_118 : decode cX11_table 118 = .ok (.invokevirtual 196, 3) := by decide +kernel
theorem dX11_table_121 : decode cX11_table 121 = .ok (.aload_n 0, 1) := by decide +kernel
theorem dX11_table_122 : decode cX11_table 122 = .ok (.dup, 1) := by decide +kernel
theorem dX11_table_123 : decode cX11_table 123 = .ok (.getfield 176, 3) := by decide +kernel
theorem dX11_table_126 : decode cX11_table 126 = .ok (.iconst 1, 1) := by decide +kernel
theorem dX11_table_127 : decode cX11_table 127 = .ok (.iadd, 1) := by decide +kernel
theorem dX11_table_128 : decode cX11_table 128 = .ok (.putfield 176, 3) := by decide +kernel
theorem dX11_table_131 : decode cX11_table 131 = .ok (.goto (-75), 3) := by decide +kernel
theorem dX11_table_134 : decode cX11_table 134 = .ok (.aload_n 0, 1) := by decide +kernel
theorem dX11_table_135 : decode cX11_table 135 = .ok (.iconst 0, 1) := by decide +kernel
theorem dX11_table_136 : decode cX11_table 136 = .ok (.putfield 166, 3) := by decide +kernel
theorem dX11_table_139 : decode cX11_table 139 = .ok (.aload_n 0, 1) := by decide +kernel
theorem dX11_table_140 : decode cX11_table 140 = .ok (.getfield 173, 3) := by decide +kernel
theorem dX11_table_143 : decode cX11_table 143 = .ok (.ifCond .le 11, 3) := by decide +kernel
theorem dX11_table_146 : decode cX11_table 146 = .ok (.bipush (-2), 2) := by decide +kernel
theorem dX11_table_148 : decode cX11_table 148 = .ok (.aload_n 0, 1) := by decide +kernel
theorem dX11_table_149 : decode cX11_table 149 = .ok (.getfield 173, 3) := by decide +kernel
theorem dX11_table_152 : decode cX11_table 152 = .ok (.isub, 1) := by decide +kernel
theorem dX11_table_153 : decode cX11_table 153 = .ok (.ireturn, 1) := by decide +kernel
theorem dX11_table_154 : decode cX11_table 154 = .ok (.iconst 0, 1) := by decide +kernel
theorem dX11_table_155 : decode cX11_table 155 = .ok (.istore_n 3, 1) := by decide +kernel
theorem dX11_table_156 : decode cX11_table 156 = .ok (.iload_n 3, 1) := by decide +kernel
theorem dX11_table_157 : decode cX11_table 157 = .ok (.bipush 9, 2) := by decide +kernel
theorem dX11_table_159 : decode cX11_table 159 = .ok (.if_icmp .ge 21, 3) := by decide +kernel
theorem dX11_table_162 : decode cX11_table 162 = .ok (.aload_n 0, 1) := by decide +kernel
theorem dX11_table_163 : decode cX11_table 163 = .ok (.getfield 44, 3) := by decide +kernel
theorem dX11_table_166 : decode cX11_table 166 = .ok (.iload_n 3, 1) := by decide +kernel
theorem dX11_table_167 : decode cX11_table 167 = .ok (.aload_n 0, 1) := by decide +kernel
theorem dX11_table_168 : decode cX11_table 168 = .ok (.getfield 47, 3) := by decide +kernel
theorem dX11_table_171 : decode cX11_table 171 = .ok (.iload_n 3, 1) := by decide +kernel
theorem dX11_table_172 : decode cX11_table 172 = .ok (.iaload, 1) := by decide +kernel
theorem dX11_table_173 : decode cX11_table 173 = .ok (.iastore, 1) := by decide +kernel
theorem dX11_table_174 : decode cX11_table 174 = .ok (.iinc 3 1, 3) := by decide +kernel
theorem dX11_table_177 : decode cX11_table 177 = .ok (.goto (-21), 3) := by decide +kernel
theorem dX11_table_180 : decode cX11_table 180 = .ok (.iload_n 1, 1) := by decide +kernel
theorem dX11_table_181 : decode cX11_table 181 = .ok (.ireturn, 1) := by decide +kernel
theorem dX11_stone_0 : decode cX11_stone 0 = .ok (.aload_n 0, 1) := by decide +kernel
theorem dX11_stone_1 : decode cX11_stone 1 = .ok (.getfield 216, 3) := by decide +kernel
theorem dX11_stone_4 : decode cX11_stone 4 = .ok (.bipush 30, 2) := by decide +kernel
theorem dX11_stone_6 : decode cX11_stone 6 = .ok (.if_icmp .eq 23, 3) := by decide +kernel
theorem dX11_stone_9 : decode cX11_stone 9 = .ok (.iload_n 1, 1) := by decide +kernel
theorem dX11_stone_10 : decode cX11_stone 10 = .ok (.iconst 1, 1) := by decide +kernel
theorem dX11_stone_11 : decode cX11_stone 11 = .ok (.bipush 99, 2) := by decide +kernel
theorem dX11_stone_13 : decode cX11_stone 13 = .ok (.invokestatic 139, 3) := by decide +kernel
theorem dX11_stone_16 : decode cX11_stone 16 = .ok (.ifCond .eq 13, 3) := by decide +kernel
theorem dX11_stone_19 : decode cX11_stone 19 = .ok (.iload_n 2, 1) := by decide +kernel
theorem dX11_stone_20 : decode cX11_stone 20 = .ok (.iconst 0, 1) := by decide +kernel
theorem dX11_stone_21 : decode cX11_stone 21 = .ok (.bipush 9, 2) := by decide +kernel
theorem dX11_stone_23 : decode cX11_stone 23 = .ok (.invokestatic 139, 3) := by decide +kernel
theorem dX11_stone_26 : decode cX11_stone 26 = .ok (.ifCond .ne 5, 3) := by decide +kernel
theorem dX11_stone_29 : decode cX11_stone 29 = .ok (.iconst (-1), 1) := by decide +kernel
theorem dX11_stone_30 : decode cX11_stone 30 = .ok (.ireturn, 1) := by decide +kernel
theorem dX11_stone_31 : decode cX11_stone 31 = .ok (.aload_n 0, 1) := by decide +kernel
theorem dX11_stone_32 : decode cX11_stone 32 = .ok (.getfield 54, 3) := by decide +kernel
theorem dX11_stone_35 : decode cX11_stone 35 = .ok (.aload_n 0, 1) := by decide +kernel
theorem dX11_stone_36 : decode cX11_stone 36 = .ok (.getfield 216, 3) := by decide +kernel
theorem dX11_stone_39 : decode cX11_stone 39 = .ok (.iload_n 1, 1) := by decide +kernel
theorem dX11_stone_40 : decode cX11_stone 40 = .ok (.iastore, 1) := by decide +kernel
theorem dX11_stone_41 : decode cX11_stone 41 = .ok (.aload_n 0, 1) := by decide +kernel
theorem dX11_stone_42 : decode cX11_stone 42 = .ok (.getfield 57, 3) := by decide +kernel
theorem dX11_stone_45 : decode cX11_stone 45 = .ok (.aload_n 0, 1) := by decide +kernel
theorem dX11_stone_46 : decode cX11_stone 46 = .ok (.getfield 216, 3) := by decide +kernel
theorem dX11_stone_49 : decode cX11_stone 49 = .ok (.iload_n 2, 1) := by decide +kernel
theorem dX11_stone_50 : decode cX11_stone 50 = .ok (.iastore, 1) := by decide +kernel
theorem dX11_stone_51 : decode cX11_stone 51 = .ok (.aload_n 0, 1) := by decide +kernel
theorem dX11_stone_52 : decode cX11_stone 52 = .ok (.getfield 63, 3) := by decide +kernel
theorem dX11_stone_55 : decode cX11_stone 55 = .ok (.aload_n 0, 1) := by decide +kernel
theorem dX11_stone_56 : decode cX11_stone 56 = .ok (.getfield 216, 3) := by decide +kernel
theorem dX11_stone_59 : decode cX11_stone 59 = .ok (.iconst (-1), 1) := by decide +kernel
theorem dX11_stone_60 : decode cX11_stone 60 = .ok (.iastore, 1) := by decide +kernel
theorem dX11_stone_61 : decode cX11_stone 61 = .ok (.aload_n 0, 1) := by decide +kernel
theorem dX11_stone_62 : decode cX11_stone 62 = .ok (.getfield 66, 3) := by decide +kernel
theorem dX11_stone_65 : decode cX11_stone 65 = .ok (.aload_n 0, 1) := by decide +kernel
theorem dX11_stone_66 : decode cX11_stone 66 = .ok (.getfield 216, 3) := by decide +kernel
theorem dX11_stone_69 : decode cX11_stone 69 = .ok (.iconst (-1), 1) := by decide +kernel
theorem dX11_stone_70 : decode cX11_stone 70 = .ok (.iastore, 1) := by decide +kernel
theorem dX11_stone_71 : decode cX11_stone 71 = .ok (.aload_n 0, 1) := by decide +kernel
theorem dX11_stone_72 : decode cX11_stone 72 = .ok (.dup, 1) := by decide +kernel
theorem dX11_stone_73 : decode cX11_stone 73 = .ok (.getfield 216, 3) := by decide +kernel
theorem dX11_stone_76 : decode cX11_stone 76 = .ok (.iconst 1, 1) := by decide +kernel
theorem dX11_stone_77 : decode cX11_stone 77 = .ok (.iadd, 1) := by decide +kernel
theorem dX11_stone_78 : decode cX11_stone 78 = .ok (.putfield 216, 3) := by decide +kernel
theorem dX11_stone_81 : decode cX11_stone 81 = .ok (.aload_n 0, 1) := by decide +kernel
theorem dX11_stone_82 : decode cX11_stone 82 = .ok (.getfield 216, 3) := by decide +kernel
theorem dX11_stone_85 : decode cX11_stone 85 = .ok (.iconst 1, 1) := by decide +kernel
theorem dX11_stone_86 : decode cX11_stone 86 = .ok (.isub, 1) := by decide +kernel
theorem dX11_stone_87 : decode cX11_stone 87 = .ok (.ireturn, 1) := by decide +kernel
theorem dX11_pull_0 : decode cX11_pull 0 = .ok (.iload_n 2, 1) := by decide +kernel
theorem dX11_pull_1 : decode cX11_pull 1 = .ok (.iconst 1, 1) := by decide +kernel
theorem dX11_pull_2 : decode cX11_pull 2 = .ok (.if_icmp .eq 15, 3) := by decide +kernel
theorem dX11_pull_5 : decode cX11_pull 5 = .ok (.iload_n 2, 1) := by decide +kernel
theorem dX11_pull_6 : decode cX11_pull 6 = .ok (.iconst 3, 1) := by decide +kernel
theorem dX11_pull_7 : decode cX11_pull 7 = .ok (.if_icmp .eq 10, 3) := by decide +kernel
theorem dX11_pull_10 : decode cX11_pull 10 = .ok (.iload_n 2, 1) := by decide +kernel
theorem dX11_pull_11 : decode cX11_pull 11 = .ok (.iconst 4, 1) := by decide +kernel
theorem dX11_pull_12 : decode cX11_pull 12 = .ok (.if_icmp .eq 5, 3) := by decide +kernel
theorem dX11_pull_15 : decode cX11_pull 15 = .ok (.iconst 0, 1) := by decide +kernel
theorem dX11_pull_16 : decode cX11_pull 16 = .ok (.ireturn, 1) := by decide +kernel
theorem dX11_pull_17 : decode cX11_pull 17 = .ok (.aload_n 0, 1) := by decide +kernel
theorem dX11_pull_18 : decode cX11_pull 18 = .ok (.getfield 44, 3) := by decide +kernel
theorem dX11_pull_21 : decode cX11_pull 21 = .ok (.iload_n 2, 1) := by decide +kernel
theorem dX11_pull_22 : decode cX11_pull 22 = .ok (.iconst 3, 1) := by decide +kernel
theorem dX11_pull_23 : decode cX11_pull 23 = .ok (.if_icmp .ne 7, 3) := by decide +kernel
theorem dX11_pull_26 : decode cX11_pull 26 = .ok (.iconst 2, 1) := by decide +kernel
theorem dX11_pull_27 : decode cX11_pull 27 = .ok (.goto 4, 3) := by decide +kernel
theorem dX11_pull_30 : decode cX11_pull 30 = .ok (.iconst 0, 1) := by decide +kernel
theorem dX11_pull_31 : decode cX11_pull 31 = .ok (.iload_n 3, 1) := by decide +kernel
theorem dX11_pull_32 : decode cX11_pull 32 = .ok (.ifCond .eq 7, 3) := by decide +kernel
theorem dX11_pull_35 : decode cX11_pull 35 = .ok (.iconst 1, 1) := by decide +kernel
theorem dX11_pull_36 : decode cX11_pull 36 = .ok (.goto 4, 3) := by decide +kernel
theorem dX11_pull_39 : decode cX11_pull 39 = .ok (.iconst 0, 1) := by decide +kernel
theorem dX11_pull_40 : decode cX11_pull 40 = .ok (.iadd, 1) := by decide +kernel
theorem dX11_pull_41 : decode cX11_pull 41 = .ok (.iaload, 1) := by decide +kernel
theorem dX11_pull_42 : decode cX11_pull 42 = .ok (.istore 4, 2) := by decide +kernel
theorem dX11_pull_44 : decode cX11_pull 44 = .ok (.aload_n 0, 1) := by decide +kernel
theorem dX11_pull_45 : decode cX11_pull 45 = .ok (.getfield 54, 3) := by decide +kernel
theorem dX11_pull_48 : decode cX11_pull 48 = .ok (.iload_n 1, 1) := by decide +kernel
theorem dX11_pull_49 : decode cX11_pull 49 = .ok (.iaload, 1) := by decide +kernel
theorem dX11_pull_50 : decode cX11_pull 50 = .ok (.iload 4, 2) := by decide +kernel
theorem dX11_pull_52 : decode cX11_pull 52 = .ok (.imul, 1) := by decide +kernel
theorem dX11_pull_53 : decode cX11_pull 53 = .ok (.bipush 9, 2) := by decide +kernel
theorem dX11_pull_55 : decode cX11_pull 55 = .ok (.iadd, 1) := by decide +kernel
theorem dX11_pull_56 : decode cX11_pull 56 = .ok (.bipush 10, 2) := by decide +kernel
theorem dX11_pull_58 : decode cX11_pull 58 = .ok (.idiv, 1) := by decide +kernel
theorem dX11_pull_59 : decode cX11_pull 59 = .ok (.ireturn, 1) := by decide +kernel
theorem dX11_worker_0 : decode cX11_worker 0 = .ok (.iconst 0, 1) := by decide +kernel
theorem dX11_worker_1 : decode cX11_worker 1 = .ok (.istore_n 2, 1) := by decide +kernel
theorem dX11_worker_2 : decode cX11_worker 2 = .ok (.iload_n 2, 1) := by decide +kernel
theorem dX11_worker_3 : decode cX11_worker 3 = .ok (.aload_n 0, 1) := by decide +kernel
theorem dX11_worker_4 : decode cX11_worker 4 = .ok (.getfield 136, 3) := by decide +kernel
theorem dX11_worker_7 : decode cX11_worker 7 = .ok (.if_icmp .ge 21, 3) := by decide +kernel
theorem dX11_worker_10 : decode cX11_worker 10 = .ok (.aload_n 0, 1) := by decide +kernel
theorem dX11_worker_11 : decode cX11_worker 11 = .ok (.getfield 13, 3) := by decide +kernel
theorem dX11_worker_14 : decode cX11_worker 14 = .ok (.iload_n 2, 1) := by decide +kernel
theorem dX11_worker_15 : decode cX11_worker 15 = .ok (.iaload, 1) := by decide +kernel
theorem dX11_worker_16 : decode cX11_worker 16 = .ok (.iload_n 1, 1) := by decide +kernel
theorem dX11_worker_17 : decode cX11_worker 17 = .ok (.if_icmp .ne 5, 3) := by decide +kernel
theorem dX11_worker_20 : decode cX11_worker 20 = .ok (.iload_n 2, 1) := by decide +kernel
theorem dX11_worker_21 : decode cX11_worker 21 = .ok (.ireturn, 1) := by decide +kernel
theorem dX11_worker_22 : decode cX11_worker 22 = .ok (.iinc 2 1, 3) := by decide +kernel
theorem dX11_worker_25 : decode cX11_worker 25 = .ok (.goto (-23), 3) := by decide +kernel
theorem dX11_worker_28 : decode cX11_worker 28 = .ok (.iconst (-1), 1) := by decide +kernel
theorem dX11_worker_29 : decode cX11_worker 29 = .ok (.ireturn, 1) := by decide +kernel
theorem dX11_lacksLesser_0 : decode cX11_lacksLesser 0 = .ok (.iconst 0, 1) := by decide +kernel
theorem dX11_lacksLesser_1 : decode cX11_lacksLesser 1 = .ok (.istore_n 2, 1) := by decide +kernel
theorem dX11_lacksLesser_2 : decode cX11_lacksLesser 2 = .ok (.iconst 0, 1) := by decide +kernel
theorem dX11_lacksLesser_3 : decode cX11_lacksLesser 3 = .ok (.istore_n 3, 1) := by decide +kernel
theorem dX11_lacksLesser_4 : decode cX11_lacksLesser 4 = .ok (.iload_n 3, 1) := by decide +kernel
theorem dX11_lacksLesser_5 : decode cX11_lacksLesser 5 = .ok (.aload_n 0, 1) := by decide +kernel
theorem dX11_lacksLesser_6 : decode cX11_lacksLesser 6 = .ok (.getfield 216, 3) := by decide +kernel
theorem dX11_lacksLesser_9 : decode cX11_lacksLesser 9 = .ok (.if_icmp .ge 44, 3) := by decide +kernel
theorem dX11_lacksLesser_12 : decode cX11_lacksLesser 12 = .ok (.iload_n 2, 1) := by decide +kernel
theorem dX11_lacksLesser_13 : decode cX11_lacksLesser 13 = .ok (.ifCond .ne 28, 3) := by decide +kernel
theorem dX11_lacksLesser_16 : decode cX11_lacksLesser 16 = .ok (.aload_n 0, 1) := by decide +kernel
theorem dX11_lacksLesser_17 : decode cX11_lacksLesser 17 = .ok (.getfield 57, 3) := by decide +kernel
theorem dX11_lacksLesser_20 : decode cX11_lacksLesser 20 = .ok (.iload_n 3, 1) := by decide +kernel
theorem dX11_lacksLesser_21 : decode cX11_lacksLesser 21 = .ok (.iaload, 1) := by decide +kernel
theorem dX11_lacksLesser_22 : decode cX11_lacksLesser 22 = .ok (.aload_n 0, 1) := by decide +kernel
theorem dX11_lacksLesser_23 : decode cX11_lacksLesser 23 = .ok (.getfield 57, 3) := by decide +kernel
theorem dX11_lacksLesser_26 : decode cX11_lacksLesser 26 = .ok (.iload_n 1, 1) := by decide +kernel
theorem dX11_lacksLesser_27 : decode cX11_lacksLesser 27 = .ok (.iaload, 1) := by decide +kernel
theorem dX11_lacksLesser_28 : decode cX11_lacksLesser 28 = .ok (.if_icmp .ge 17, 3) := by decide +kernel
theorem dX11_lacksLesser_31 : decode cX11_lacksLesser 31 = .ok (.aload_n 0, 1) := by decide +kernel
theorem dX11_lacksLesser_32 : decode cX11_lacksLesser 32 = .ok (.getfield 60, 3) := by decide +kernel
theorem dX11_lacksLesser_35 : decode cX11_lacksLesser 35 = .ok (.iload_n 3, 1) := by decide +kernel
theorem dX11_lacksLesser_36 : decode cX11_lacksLesser 36 = .ok (.iaload, 1) := by decide +kernel
theorem dX11_lacksLesser_37 : decode cX11_lacksLesser 37 = .ok (.iconst 5, 1) := by decide +kernel
theorem dX11_lacksLesser_38 : decode cX11_lacksLesser 38 = .ok (.if_icmp .ge 7, 3) := by decide +kernel
theorem dX11_lacksLesser_41 : decode cX11_lacksLesser 41 = .ok (.iconst 1, 1) := by decide +kernel
theorem dX11_lacksLesser_42 : decode cX11_lacksLesser 42 = .ok (.goto 4, 3) := by decide +kernel
theorem dX11_lacksLesser_45 : decode cX11_lacksLesser 45 = .ok (.iconst 0, 1) := by decide +kernel
theorem dX11_lacksLesser_46 : decode cX11_lacksLesser 46 = .ok (.istore_n 2, 1) := by decide +kernel
theorem dX11_lacksLesser_47 : decode cX11_lacksLesser 47 = .ok (.iinc 3 1, 3) := by decide +kernel
theorem dX11_lacksLesser_50 : decode cX11_lacksLesser 50 = .ok (.goto (-46), 3) := by decide +kernel
theorem dX11_lacksLesser_53 : decode cX11_lacksLesser 53 = .ok (.iload_n 2, 1) := by decide +kernel
theorem dX11_lacksLesser_54 : decode cX11_lacksLesser 54 = .ok (.ireturn, 1) := by decide +kernel
theorem dX11_send_0 : decode cX11_send 0 = .ok (.iload_n 1, 1) := by decide +kernel
theorem dX11_send_1 : decode cX11_send 1 = .ok (.iconst 0, 1) := by decide +kernel
theorem dX11_send_2 : decode cX11_send 2 = .ok (.aload_n 0, 1) := by decide +kernel
theorem dX11_send_3 : decode cX11_send 3 = .ok (.getfield 136, 3) := by decide +kernel
theorem dX11_send_6 : decode cX11_send 6 = .ok (.iconst 1, 1) := by decide +kernel
theorem dX11_send_7 : decode cX11_send 7 = .ok (.isub, 1) := by decide +kernel
theorem dX11_send_8 : decode cX11_send 8 = .ok (.invokestatic 139, 3) := by decide +kernel
theorem dX11_send_11 : decode cX11_send 11 = .ok (.ifCond .eq 24, 3) := by decide +kernel
theorem dX11_send_14 : decode cX11_send 14 = .ok (.iload_n 2, 1) := by decide +kernel
theorem dX11_send_15 : decode cX11_send 15 = .ok (.iconst 0, 1) := by decide +kernel
theorem dX11_send_16 : decode cX11_send 16 = .ok (.aload_n 0, 1) := by decide +kernel
theorem dX11_send_17 : decode cX11_send 17 = .ok (.getfield 216, 3) := by decide +kernel
theorem dX11_send_20 : decode cX11_send 20 = .ok (.iconst 1, 1) := by decide +kernel
theorem dX11_send_21 : decode cX11_send 21 = .ok (.isub, 1) := by decide +kernel
theorem dX11_send_22 : decode cX11_send 22 = .ok (.invokestatic 139, 3) := by decide +kernel
theorem dX11_send_25 : decode cX11_send 25 = .ok (.ifCond .eq 10, 3) := by decide +kernel
theorem dX11_send_28 : decode cX11_send 28 = .ok (.aload_n 0, 1) := by decide +kernel
theorem dX11_send_29 : decode cX11_send 29 = .ok (.invokevirtual 219, 3) := by decide +kernel
theorem dX11_send_32 : decode cX11_send 32 = .ok (.ifCond .eq 5, 3) := by decide +kernel
theorem dX11_send_35 : decode cX11_send 35 = .ok (.iconst 1, 1) := by decide +kernel
theorem dX11_send_36 : decode cX11_send 36 = .ok (.ireturn, 1) := by decide +kernel
theorem dX11_send_37 : decode cX11_send 37 = .ok (.aload_n 0, 1) := by decide +kernel
theorem dX11_send_38 : decode cX11_send 38 = .ok (.getfield 13, 3) := by decide +kernel
theorem dX11_send_41 : decode cX11_send 41 = .ok (.iload_n 1, 1) := by decide +kernel
theorem dX11_send_42 : decode cX11_send 42 = .ok (.iaload, 1) := by decide +kernel
theorem dX11_send_43 : decode cX11_send 43 = .ok (.iconst (-1), 1) := by decide +kernel
theorem dX11_send_44 : decode cX11_send 44 = .ok (.if_icmp .eq 5, 3) := by decide +kernel
theorem dX11_send_47 : decode cX11_send 47 = .ok (.iconst 2, 1) := by decide +kernel
theorem dX11_send_48 : decode cX11_send 48 = .ok (.ireturn, 1) := by decide +kernel
theorem dX11_send_49 : decode cX11_send 49 = .ok (.aload_n 0, 1) := by decide +kernel
theorem dX11_send_50 : decode cX11_send 50 = .ok (.iload_n 2, 1) := by decide +kernel
theorem dX11_send_51 : decode cX11_send 51 = .ok (.invokevirtual 222, 3) := by decide +kernel
theorem dX11_send_54 : decode cX11_send 54 = .ok (.iconst (-1), 1) := by decide +kernel
theorem dX11_send_55 : decode cX11_send 55 = .ok (.if_icmp .eq 5, 3) := by decide +kernel
theorem dX11_send_58 : decode cX11_send 58 = .ok (.iconst 3, 1) := by decide +kernel
theorem dX11_send_59 : decode cX11_send 59 = .ok (.ireturn, 1) := by decide +kernel
theorem dX11_send_60 : decode cX11_send 60 = .ok (.aload_n 0, 1) := by decide +kernel
theorem dX11_send_61 : decode cX11_send 61 = .ok (.getfield 60, 3) := by decide +kernel
theorem dX11_send_64 : decode cX11_send 64 = .ok (.iload_n 2, 1) := by decide +kernel
theorem dX11_send_65 : decode cX11_send 65 = .ok (.iaload, 1) := by decide +kernel
theorem dX11_send_66 : decode cX11_send 66 = .ok (.istore_n 3, 1) := by decide +kernel
theorem dX11_send_67 : decode cX11_send 67 = .ok (.iload_n 3, 1) := by decide +kernel
theorem dX11_send_68 : decode cX11_send 68 = .ok (.iconst 5, 1) := by decide +kernel
theorem dX11_send_69 : decode cX11_send 69 = .ok (.if_icmp .lt 5, 3) := by decide +kernel
theorem dX11_send_72 : decode cX11_send 72 = .ok (.iconst 4, 1) := by decide +kernel
theorem dX11_send_73 : decode cX11_send 73 = .ok (.ireturn, 1) := by decide +kernel
theorem dX11_send_74 : decode cX11_send 74 = .ok (.aload_n 0, 1) := by decide +kernel
theorem dX11_send_75 : decode cX11_send 75 = .ok (.iload_n 2, 1) := by decide +kernel
theorem dX11_send_76 : decode cX11_send 76 = .ok (.iload_n 3, 1) := by decide +kernel
theorem dX11_send_77 : decode cX11_send 77 = .ok (.aload_n 0, 1) := by decide +kernel
theorem dX11_send_78 : decode cX11_send 78 = .ok (.iconst 1, 1) := by decide +kernel
theorem dX11_send_79 : decode cX11_send 79 = .ok (.aload_n 0, 1) := by decide +kernel
theorem dX11_send_80 : decode cX11_send 80 = .ok (.getfield 133, 3) := by decide +kernel
theorem dX11_send_83 : decode cX11_send 83 = .ok (.invokevirtual 225, 3) := by decide +kernel
theorem dX11_send_86 : decode cX11_send 86 = .ok (.invokevirtual 229, 3) := by decide +kernel
theorem dX11_send_89 : decode cX11_send 89 = .ok (.istore 4, 2) := by decide +kernel
theorem dX11_send_91 : decode cX11_send 91 = .ok (.iload 4, 2) := by decide +kernel
theorem dX11_send_93 : decode cX11_send 93 = .ok (.aload_n 0, 1) := by decide +kernel
theorem dX11_send_94 : decode cX11_send 94 = .ok (.getfield 44, 3) := by decide +kernel
theorem dX11_send_97 : decode cX11_send 97 = .ok (.bipush 7, 2) := by decide +kernel
theorem dX11_send_99 : decode cX11_send 99 = .ok (.iaload, 1) := by decide +kernel
theorem dX11_send_100 : decode cX11_send 100 = .ok (.if_icmp .le 5, 3) := by decide +kernel
theorem dX11_send_103 : decode cX11_send 103 = .ok (.iconst 5, 1) := by decide +kernel
theorem dX11_send_104 : decode cX11_send 104 = .ok (.ireturn, 1) := by decide +kernel
theorem dX11_send_105 : decode cX11_send 105 = .ok (.iload 4, 2) := by decide +kernel
theorem dX11_send_107 : decode cX11_send 107 = .ok (.aload_n 0, 1) := by decide +kernel
theorem dX11_send_108 : decode cX11_send 108 = .ok (.getfield 9, 3) := by decide +kernel
theorem dX11_send_111 : decode cX11_send 111 = .ok (.iload_n 1, 1) := by decide +kernel
theorem dX11_send_112 : decode cX11_send 112 = .ok (.iaload, 1) := by decide +kernel
theorem dX11_send_113 : decode cX11_send 113 = .ok (.if_icmp .le 6, 3) := by decide +kernel
theorem dX11_send_116 : decode cX11_send 116 = .ok (.bipush 6, 2) := by decide +kernel
theorem dX11_send_118 : decode cX11_send 118 = .ok (.ireturn, 1) := by decide +kernel
theorem dX11_send_119 : decode cX11_send 119 = .ok (.iload_n 3, 1) := by decide +kernel
theorem dX11_send_120 : decode cX11_send 120 = .ok (.iconst 2, 1) := by decide +kernel
theorem dX11_send_121 : decode cX11_send 121 = .ok (.if_icmp .ne 18, 3) := by decide +kernel
theorem dX11_send_124 : decode cX11_send 124 = .ok (.aload_n 0, 1) := by decide +kernel
theorem dX11_send_125 : decode cX11_send 125 = .ok (.iconst 0, 1) := by decide +kernel
theorem dX11_send_126 : decode cX11_send 126 = .ok (.aload_n 0, 1) := by decide +kernel
theorem dX11_send_127 : decode cX11_send 127 = .ok (.getfield 133, 3) := by decide +kernel
theorem dX11_send_130 : decode cX11_send 130 = .ok (.invokevirtual 225, 3) := by decide +kernel
theorem dX11_send_133 : decode cX11_send 133 = .ok (.ifCond .ne 6, 3) := by decide +kernel
theorem dX11_send_136 : decode cX11_send 136 = .ok (.bipush 7, 2) := by decide +kernel
theorem dX11_send_138 : decode cX11_send 138 = .ok (.ireturn, 1) := by decide +kernel
theorem dX11_send_139 : decode cX11_send 139 = .ok (.iload_n 3, 1) := by decide +kernel
theorem dX11_send_140 : decode cX11_send 140 = .ok (.iconst 3, 1) := by decide +kernel
theorem dX11_send_141 : decode cX11_send 141 = .ok (.if_icmp .ne 19, 3) := by decide +kernel
theorem dX11_send_144 : decode cX11_send 144 = .ok (.aload_n 0, 1) := by decide +kernel
theorem dX11_send_145 : decode cX11_send 145 = .ok (.getfield 233, 3) := by decide +kernel
theorem dX11_send_148 : decode cX11_send 148 = .ok (.aload_n 0, 1) := by decide +kernel
theorem dX11_send_149 : decode cX11_send 149 = .ok (.getfield 57, 3) := by decide +kernel
theorem dX11_send_152 : decode cX11_send 152 = .ok (.iload_n 2, 1) := by decide +kernel
theorem dX11_send_153 : decode cX11_send 153 = .ok (.iaload, 1) := by decide +kernel
theorem dX11_send_154 : decode cX11_send 154 = .ok (.if_icmp .gt 6, 3) := by decide +kernel
theorem dX11_send_157 : decode cX11_send 157 = .ok (.bipush 8, 2) := by decide +kernel
theorem dX11_send_159 : decode cX11_send 159 = .ok (.ireturn, 1) := by decide +kernel
theorem dX11_send_160 : decode cX11_send 160 = .ok (.iload_n 3, 1) := by decide +kernel
theorem dX11_send_161 : decode cX11_send 161 = .ok (.iconst 4, 1) := by decide +kernel
theorem dX11_send_162 : decode cX11_send 162 = .ok (.if_icmp .ne 14, 3) := by decide +kernel
theorem dX11_send_165 : decode cX11_send 165 = .ok (.aload_n 0, 1) := by decide +kernel
theorem dX11_send_166 : decode cX11_send 166 = .ok (.iload_n 2, 1) := by decide +kernel
theorem dX11_send_167 : decode cX11_send 167 = .ok (.invokevirtual 236, 3) := by decide +kernel
theorem dX11_send_170 : decode cX11_send 170 = .ok (.ifCond .eq 6, 3) := by decide +kernel
theorem dX11_send_173 : decode cX11_send 173 = .ok (.bipush 9, 2) := by decide +kernel
theorem dX11_send_175 : decode cX11_send 175 = .ok (.ireturn, 1) := by decide +kernel
theorem dX11_send_176 : decode cX11_send 176 = .ok (.aload_n 0, 1) := by decide +kernel
theorem dX11_send_177 : decode cX11_send 177 = .ok (.getfield 13, 3) := by decide +kernel
theorem dX11_send_180 : decode cX11_send 180 = .ok (.iload_n 1, 1) := by decide +kernel
theorem dX11_send_181 : decode cX11_send 181 = .ok (.iload_n 2, 1) := by decide +kernel
theorem dX11_send_182 : decode cX11_send 182 = .ok (.iastore, 1) := by decide +kernel
theorem dX11_send_183 : decode cX11_send 183 = .ok (.aload_n 0, 1) := by decide +kernel
theorem dX11_send_184 : decode cX11_send 184 = .ok (.getfield 16, 3) := by decide +kernel
theorem dX11_send_187 : decode cX11_send 187 = .ok (.iload_n 1, 1) := by decide +kernel
theorem dX11_send_188 : decode cX11_send 188 = .ok (.iload_n 3, 1) := by decide +kernel
theorem dX11_send_189 : decode cX11_send 189 = .ok (.ifCond .ne 19, 3) := by decide +kernel
theorem dX11_send_192 : decode cX11_send 192 = .ok (.aload_n 0, 1) := by decide +kernel
theorem dX11_send_193 : decode cX11_send 193 = .ok (.getfield 54, 3) := by decide +kernel
theorem dX11_send_196 : decode cX11_send 196 = .ok (.iload_n 2, 1) := by decide +kernel
theorem dX11_send_197 : decode cX11_send 197 = .ok (.iaload, 1) := by decide +kernel
theorem dX11_send_198 : decode cX11_send 198 = .ok (.aload_n 0, 1) := by decide +kernel
theorem dX11_send_199 : decode cX11_send 199 = .ok (.getfield 44, 3) := by decide +kernel
theorem dX11_send_202 : decode cX11_send 202 = .ok (.iconst 4, 1) := by decide +kernel
theorem dX11_send_203 : decode cX11_send 203 = .ok (.iaload, 1) := by decide +kernel
theorem dX11_send_204 : decode cX11_send 204 = .ok (.imul, 1) := by decide +kernel
theorem dX11_send_205 : decode cX11_send 205 = .ok (.goto 49, 3) := by decide +kernel
theorem dX11_send_208 : decode cX11_send 208 = .ok (.iload_n 3, 1) := by decide +kernel
theorem dX11_send_209 : decode cX11_send 209 = .ok (.iconst 1, 1) := by decide +kernel
theorem dX11_send_210 : decode cX11_send 210 = .ok (.if_icmp .ne 12, 3) := by decide +kernel
theorem dX11_send_213 : decode cX11_send 213 = .ok (.aload_n 0, 1) := by decide +kernel
theorem dX11_send_214 : decode cX11_send 214 = .ok (.getfield 44, 3) := by decide +kernel
theorem dX11_send_217 : decode cX11_send 217 = .ok (.iconst 5, 1) := by decide +kernel
theorem dX11_send_218 : decode cX11_send 218 = .ok (.iaload, 1) := by decide +kernel
theorem dX11_send_219 : decode cX11_send 219 = .ok (.goto 35, 3) := by decide +kernel
theorem dX11_send_222 : decode cX11_send 222 = .ok (.iload_n 3, 1) := by decide +kernel
theorem dX11_send_223 : decode cX11_send 223 = .ok (.iconst 2, 1) := by decide +kernel
theorem dX11_send_224 : decode cX11_send 224 = .ok (.if_icmp .ne 13, 3) := by decide +kernel
theorem dX11_send_227 : decode cX11_send 227 = .ok (.aload_n 0, 1) := by decide +kernel
theorem dX11_send_228 : decode cX11_send 228 = .ok (.getfield 44, 3) := by decide +kernel
theorem dX11_send_231 : decode cX11_send 231 = .ok (.bipush 6, 2) := by decide +kernel
theorem dX11_send_233 : decode cX11_send 233 = .ok (.iaload, 1) := by decide +kernel
theorem dX11_send_234 : decode cX11_send 234 = .ok (.goto 20, 3) := by decide +kernel
theorem dX11_send_237 : decode cX11_send 237 = .ok (.iload_n 3, 1) := by decide +kernel
theorem dX11_send_238 : decode cX11_send 238 = .ok (.iconst 3, 1) := by decide +kernel
theorem dX11_send_239 : decode cX11_send 239 = .ok (.if_icmp .ne 14, 3) := by decide +kernel
theorem dX11_send_242 : decode cX11_send 242 = .ok (.aload_n 0, 1) := by decide +kernel
theorem dX11_send_243 : decode cX11_send 243 = .ok (.getfield 57, 3) := by decide +kernel
theorem dX11_send_246 : decode cX11_send 246 = .ok (.iload_n 2, 1) := by decide +kernel
theorem dX11_send_247 : decode cX11_send 247 = .ok (.iaload, 1) := by decide +kernel
theorem dX11_send_248 : decode cX11_send 248 = .ok (.iconst 1, 1) := by decide +kernel
theorem dX11_send_249 : decode cX11_send 249 = .ok (.iadd, 1) := by decide +kernel
theorem dX11_send_250 : decode cX11_send 250 = .ok (.goto 4, 3) := by decide +kernel
theorem dX11_send_253 : decode cX11_send 253 = .ok (.iconst 1, 1) := by decide +kernel
theorem dX11_send_254 : decode cX11_send 254 = .ok (.iastore, 1) := by decide +kernel
theorem dX11_send_255 : decode cX11_send 255 = .ok (.iconst 0, 1) := by decide +kernel
theorem dX11_send_256 : decode cX11_send 256 = .ok (.ireturn, 1) := by decide +kernel
theorem dX11_raise_0 : decode cX11_raise 0 = .ok (.iload_n 1, 1) := by decide +kernel
theorem dX11_raise_1 : decode cX11_raise 1 = .ok (.iconst 0, 1) := by decide +kernel
theorem dX11_raise_2 : decode cX11_raise 2 = .ok (.aload_n 0, 1) := by decide +kernel
theorem dX11_raise_3 : decode cX11_raise 3 = .ok (.getfield 136, 3) := by decide +kernel
theorem dX11_raise_6 : decode cX11_raise 6 = .ok (.iconst 1, 1) := by decide +kernel
theorem dX11_raise_7 : decode cX11_raise 7 = .ok (.isub, 1) := by decide +kernel
theorem dX11_raise_8 : decode cX11_raise 8 = .ok (.invokestatic 139, 3) := by decide +kernel
theorem dX11_raise_11 : decode cX11_raise 11 = .ok (.ifCond .eq 10, 3) := by decide +kernel
theorem dX11_raise_14 : decode cX11_raise 14 = .ok (.aload_n 0, 1) := by decide +kernel
theorem dX11_raise_15 : decode cX11_raise 15 = .ok (.invokevirtual 219, 3) := by decide +kernel
theorem dX11_raise_18 : decode cX11_raise 18 = .ok (.ifCond .eq 5, 3) := by decide +kernel
theorem dX11_raise_21 : decode cX11_raise 21 = .ok (.iconst 1, 1) := by decide +kernel
theorem dX11_raise_22 : decode cX11_raise 22 = .ok (.ireturn, 1) := by decide +kernel
theorem dX11_raise_23 : decode cX11_raise 23 = .ok (.aload_n 0, 1) := by decide +kernel
theorem dX11_raise_24 : decode cX11_raise 24 = .ok (.getfield 13, 3) := by decide +kernel
theorem dX11_raise_27 : decode cX11_raise 27 = .ok (.iload_n 1, 1) := by decide +kernel
theorem dX11_raise_28 : decode cX11_raise 28 = .ok (.iaload, 1) := by decide +kernel
theorem dX11_raise_29 : decode cX11_raise 29 = .ok (.iconst (-1), 1) := by decide +kernel
theorem dX11_raise_30 : decode cX11_raise 30 = .ok (.if_icmp .eq 5, 3) := by decide +kernel
theorem dX11_raise_33 : decode cX11_raise 33 = .ok (.iconst 2, 1) := by decide +kernel
theorem dX11_raise_34 : decode cX11_raise 34 = .ok (.ireturn, 1) := by decide +kernel
theorem dX11_raise_35 : decode cX11_raise 35 = .ok (.aload_n 0, 1) := by decide +kernel
theorem dX11_raise_36 : decode cX11_raise 36 = .ok (.bipush 30, 2) := by decide +kernel
theorem dX11_raise_38 : decode cX11_raise 38 = .ok (.invokevirtual 222, 3) := by decide +kernel
theorem dX11_raise_41 : decode cX11_raise 41 = .ok (.iconst (-1), 1) := by decide +kernel
theorem dX11_raise_42 : decode cX11_raise 42 = .ok (.if_icmp .eq 5, 3) := by decide +kernel
theorem dX11_raise_45 : decode cX11_raise 45 = .ok (.iconst 3, 1) := by decide +kernel
theorem dX11_raise_46 : decode cX11_raise 46 = .ok (.ireturn, 1) := by decide +kernel
theorem dX11_raise_47 : decode cX11_raise 47 = .ok (.aload_n 0, 1) := by decide +kernel
theorem dX11_raise_48 : decode cX11_raise 48 = .ok (.getfield 233, 3) := by decide +kernel
theorem dX11_raise_51 : decode cX11_raise 51 = .ok (.bipush 10, 2) := by decide +kernel
theorem dX11_raise_53 : decode cX11_raise 53 = .ok (.if_icmp .ne 5, 3) := by decide +kernel
theorem dX11_raise_56 : decode cX11_raise 56 = .ok (.iconst 4, 1) := by decide +kernel
theorem dX11_raise_57 : decode cX11_raise 57 = .ok (.ireturn, 1) := by decide +kernel
theorem dX11_raise_58 : decode cX11_raise 58 = .ok (.aload_n 0, 1) := by decide +kernel
theorem dX11_raise_59 : decode cX11_raise 59 = .ok (.getfield 13, 3) := by decide +kernel
theorem dX11_raise_62 : decode cX11_raise 62 = .ok (.iload_n 1, 1) := by decide +kernel
theorem dX11_raise_63 : decode cX11_raise 63 = .ok (.bipush 30, 2) := by decide +kernel
theorem dX11_raise_65 : decode cX11_raise 65 = .ok (.iastore, 1) := by decide +kernel
theorem dX11_raise_66 : decode cX11_raise 66 = .ok (.aload_n 0, 1) := by decide +kernel
theorem dX11_raise_67 : decode cX11_raise 67 = .ok (.getfield 16, 3) := by decide +kernel
theorem dX11_raise_70 : decode cX11_raise 70 = .ok (.iload_n 1, 1) := by decide +kernel
theorem dX11_raise_71 : decode cX11_raise 71 = .ok (.aload_n 0, 1) := by decide +kernel
theorem dX11_raise_72 : decode cX11_raise 72 = .ok (.getfield 44, 3) := by decide +kernel
theorem dX11_raise_75 : decode cX11_raise 75 = .ok (.bipush 8, 2) := by decide +kernel
theorem dX11_raise_77 : decode cX11_raise 77 = .ok (.iaload, 1) := by decide +kernel
theorem dX11_raise_78 : decode cX11_raise 78 = .ok (.aload_n 0, 1) := by decide +kernel
theorem dX11_raise_79 : decode cX11_raise 79 = .ok (.getfield 233, 3) := by decide +kernel
theorem dX11_raise_82 : decode cX11_raise 82 = .ok (.iconst 1, 1) := by decide +kernel
theorem dX11_raise_83 : decode cX11_raise 83 = .ok (.iadd, 1) := by decide +kernel
theorem dX11_raise_84 : decode cX11_raise 84 = .ok (.imul, 1) := by decide +kernel
theorem dX11_raise_85 : decode cX11_raise 85 = .ok (.iastore, 1) := by decide +kernel
theorem dX11_raise_86 : decode cX11_raise 86 = .ok (.iconst 0, 1) := by decide +kernel
theorem dX11_raise_87 : decode cX11_raise 87 = .ok (.ireturn, 1) := by decide +kernel
theorem dX11_rests_0 : decode cX11_rests 0 = .ok (.aload_n 0, 1) := by decide +kernel
theorem dX11_rests_1 : decode cX11_rests 1 = .ok (.getfield 13, 3) := by decide +kernel
theorem dX11_rests_4 : decode cX11_rests 4 = .ok (.iload_n 1, 1) := by decide +kernel
theorem dX11_rests_5 : decode cX11_rests 5 = .ok (.iconst (-1), 1) := by decide +kernel
theorem dX11_rests_6 : decode cX11_rests 6 = .ok (.iastore, 1) := by decide +kernel
theorem dX11_rests_7 : decode cX11_rests 7 = .ok (.aload_n 0, 1) := by decide +kernel
theorem dX11_rests_8 : decode cX11_rests 8 = .ok (.getfield 16, 3) := by decide +kernel
theorem dX11_rests_11 : decode cX11_rests 11 = .ok (.iload_n 1, 1) := by decide +kernel
theorem dX11_rests_12 : decode cX11_rests 12 = .ok (.iconst 0, 1) := by decide +kernel
theorem dX11_rests_13 : decode cX11_rests 13 = .ok (.iastore, 1) := by decide +kernel
theorem dX11_rests_14 : decode cX11_rests 14 = .ok (.return_, 1) := by decide +kernel
theorem dX11_callOff_0 : decode cX11_callOff 0 = .ok (.iload_n 1, 1) := by decide +kernel
theorem dX11_callOff_1 : decode cX11_callOff 1 = .ok (.iconst 0, 1) := by decide +kernel
theorem dX11_callOff_2 : decode cX11_callOff 2 = .ok (.aload_n 0, 1) := by decide +kernel
theorem dX11_callOff_3 : decode cX11_callOff 3 = .ok (.getfield 136, 3) := by decide +kernel
theorem dX11_callOff_6 : decode cX11_callOff 6 = .ok (.iconst 1, 1) := by decide +kernel
theorem dX11_callOff_7 : decode cX11_callOff 7 = .ok (.isub, 1) := by decide +kernel
theorem dX11_callOff_8 : decode cX11_callOff 8 = .ok (.invokestatic 139, 3) := by decide +kernel
theorem dX11_callOff_11 : decode cX11_callOff 11 = .ok (.ifCond .eq 13, 3) := by decide +kernel
theorem dX11_callOff_14 : decode cX11_callOff 14 = .ok (.aload_n 0, 1) := by decide +kernel
theorem dX11_callOff_15 : decode cX11_callOff 15 = .ok (.getfield 13, 3) := by decide +kernel
theorem dX11_callOff_18 : decode cX11_callOff 18 = .ok (.iload_n 1, 1) := by decide +kernel
theorem dX11_callOff_19 : decode cX11_callOff 19 = .ok (.iaload, 1) := by decide +kernel
theorem dX11_callOff_20 : decode cX11_callOff 20 = .ok (.iconst (-1), 1) := by decide +kernel
theorem dX11_callOff_21 : decode cX11_callOff 21 = .ok (.if_icmp .ne 5, 3) := by decide +kernel
theorem dX11_callOff_24 : decode cX11_callOff 24 = .ok (.iconst 0, 1) := by decide +kernel
theorem dX11_callOff_25 : decode cX11_callOff 25 = .ok (.ireturn, 1) := by decide +kernel
theorem dX11_callOff_26 : decode cX11_callOff 26 = .ok (.aload_n 0, 1) := by decide +kernel
theorem dX11_callOff_27 : decode cX11_callOff 27 = .ok (.getfield 13, 3) := by decide +kernel
theorem dX11_callOff_30 : decode cX11_callOff 30 = .ok (.iload_n 1, 1) := by decide +kernel
theorem dX11_callOff_31 : decode cX11_callOff 31 = .ok (.iaload, 1) := by decide +kernel
theorem dX11_callOff_32 : decode cX11_callOff 32 = .ok (.bipush 30, 2) := by decide +kernel
theorem dX11_callOff_34 : decode cX11_callOff 34 = .ok (.if_icmp .eq 31, 3) := by decide +kernel
theorem dX11_callOff_37 : decode cX11_callOff 37 = .ok (.aload_n 0, 1) := by decide +kernel
theorem dX11_callOff_38 : decode cX11_callOff 38 = .ok (.getfield 60, 3) := by decide +kernel
theorem dX11_callOff_41 : decode cX11_callOff 41 = .ok (.aload_n 0, 1) := by decide +kernel
theorem dX11_callOff_42 : decode cX11_callOff 42 = .ok (.getfield 13, 3) := by decide +kernel
theorem dX11_callOff_45 : decode cX11_callOff 45 = .ok (.iload_n 1, 1) := by decide +kernel
theorem dX11_callOff_46 : decode cX11_callOff 46 = .ok (.iaload, 1) := by decide +kernel
theorem dX11_callOff_47 : decode cX11_callOff 47 = .ok (.iaload, 1) := by decide +kernel
theorem dX11_callOff_48 : decode cX11_callOff 48 = .ok (.iconst 2, 1) := by decide +kernel
theorem dX11_callOff_49 : decode cX11_callOff 49 = .ok (.if_icmp .ne 16, 3) := by decide +kernel
theorem dX11_callOff_52 : decode cX11_callOff 52 = .ok (.aload_n 0, 1) := by decide +kernel
theorem dX11_callOff_53 : decode cX11_callOff 53 = .ok (.getfield 60, 3) := by decide +kernel
theorem dX11_callOff_56 : decode cX11_callOff 56 = .ok (.aload_n 0, 1) := by decide +kernel
theorem dX11_callOff_57 : decode cX11_callOff 57 = .ok (.getfield 13, 3) := by decide +kernel
theorem dX11_callOff_60 : decode cX11_callOff 60 = .ok (.iload_n 1, 1) := by decide +kernel
theorem dX11_callOff_61 : decode cX11_callOff 61 = .ok (.iaload, 1) := by decide +kernel
theorem dX11_callOff_62 : decode cX11_callOff 62 = .ok (.bipush 6, 2) := by decide +kernel
theorem dX11_callOff_64 : decode cX11_callOff 64 = .ok (.iastore, 1) := by decide +kernel
theorem dX11_callOff_65 : decode cX11_callOff 65 = .ok (.aload_n 0, 1) := by decide +kernel
theorem dX11_callOff_66 : decode cX11_callOff 66 = .ok (.iload_n 1, 1) := by decide +kernel
theorem dX11_callOff_67 : decode cX11_callOff 67 = .ok (.invokevirtual 240, 3) := by decide +kernel
theorem dX11_callOff_70 : decode cX11_callOff 70 = .ok (.iconst 1, 1) := by decide +kernel
theorem dX11_callOff_71 : decode cX11_callOff 71 = .ok (.ireturn, 1) := by decide +kernel
theorem dX11_allMen_0 : decode cX11_allMen 0 = .ok (.iconst 0, 1) := by decide +kernel
theorem dX11_allMen_1 : decode cX11_allMen 1 = .ok (.istore_n 1, 1) := by decide +kernel
theorem dX11_allMen_2 : decode cX11_allMen 2 = .ok (.iconst 0, 1) := by decide +kernel
theorem dX11_allMen_3 : decode cX11_allMen 3 = .ok (.istore_n 2, 1) := by decide +kernel
theorem dX11_allMen_4 : decode cX11_allMen 4 = .ok (.iload_n 2, 1) := by decide +kernel
theorem dX11_allMen_5 : decode cX11_allMen 5 = .ok (.aload_n 0, 1) := by decide +kernel
theorem dX11_allMen_6 : decode cX11_allMen 6 = .ok (.getfield 136, 3) := by decide +kernel
theorem dX11_allMen_9 : decode cX11_allMen 9 = .ok (.if_icmp .ge 18, 3) := by decide +kernel
theorem dX11_allMen_12 : decode cX11_allMen 12 = .ok (.iload_n 1, 1) := by decide +kernel
theorem dX11_allMen_13 : decode cX11_allMen 13 = .ok (.aload_n 0, 1) := by decide +kernel
theorem dX11_allMen_14 : decode cX11_allMen 14 = .ok (.getfield 9, 3) := by decide +kernel
theorem dX11_allMen_17 : decode cX11_allMen 17 = .ok (.iload_n 2, 1) := by decide +kernel
theorem dX11_allMen_18 : decode cX11_allMen 18 = .ok (.iaload, 1) := by decide +kernel
theorem dX11_allMen_19 : decode cX11_allMen 19 = .ok (.iadd, 1) := by decide +kernel
theorem dX11_allMen_20 : decode cX11_allMen 20 = .ok (.istore_n 1, 1) := by decide +kernel
theorem dX11_allMen_21 : decode cX11_allMen 21 = .ok (.iinc 2 1, 3) := by decide +kernel
theorem dX11_allMen_24 : decode cX11_allMen 24 = .ok (.goto (-20), 3) := by decide +kernel
theorem dX11_allMen_27 : decode cX11_allMen 27 = .ok (.iload_n 1, 1) := by decide +kernel
theorem dX11_allMen_28 : decode cX11_allMen 28 = .ok (.ireturn, 1) := by decide +kernel
theorem dX11_day_0 : decode cX11_day 0 = .ok (.iconst 0, 1) := by decide +kernel
theorem dX11_day_1 : decode cX11_day 1 = .ok (.istore_n 1, 1) := by decide +kernel
theorem dX11_day_2 : decode cX11_day 2 = .ok (.iload_n 1, 1) := by decide +kernel
theorem dX11_day_3 : decode cX11_day 3 = .ok (.aload_n 0, 1) := by decide +kernel
theorem dX11_day_4 : decode cX11_day 4 = .ok (.getfield 143, 3) := by decide +kernel
theorem dX11_day_7 : decode cX11_day 7 = .ok (.if_icmp .ge 58, 3) := by decide +kernel
theorem dX11_day_10 : decode cX11_day 10 = .ok (.aload_n 0, 1) := by decide +kernel
theorem dX11_day_11 : decode cX11_day 11 = .ok (.getfield 25, 3) := by decide +kernel
theorem dX11_day_14 : decode cX11_day 14 = .ok (.iload_n 1, 1) := by decide +kernel
theorem dX11_day_15 : decode cX11_day 15 = .ok (.iaload, 1) := by decide +kernel
theorem dX11_day_16 : decode cX11_day 16 = .ok (.aload_n 0, 1) := by decide +kernel
theorem dX11_day_17 : decode cX11_day 17 = .ok (.getfield 133, 3) := by decide +kernel
theorem dX11_day_20 : decode cX11_day 20 = .ok (.if_icmp .ne 39, 3) := by decide +kernel
theorem dX11_day_23 : decode cX11_day 23 = .ok (.aload_n 0, 1) := by decide +kernel
theorem dX11_day_24 : decode cX11_day 24 = .ok (.aload_n 0, 1) := by decide +kernel
theorem dX11_day_25 : decode cX11_day 25 = .ok (.getfield 243, 3) := by decide +kernel
theorem dX11_day_28 : decode cX11_day 28 = .ok (.aload_n 0, 1) := by decide +kernel
theorem dX11_day_29 : decode cX11_day 29 = .ok (.getfield 28, 3) := by decide +kernel
theorem dX11_day_32 : decode cX11_day 32 = .ok (.iload_n 1, 1) := by decide +kernel
theorem dX11_day_33 : decode cX11_day 33 = .ok (.iaload, 1) := by decide +kernel
theorem dX11_day_34 : decode cX11_day 34 = .ok (.iadd, 1) := by decide +kernel
theorem dX11_day_35 : decode cX11_day 35 = .ok (.ldc 246, 2) := by decide +kernel
theorem dX11_day_37 : decode cX11_day 37 = .ok (.if_icmp .le 8, 3) := by decide +kernel
theorem dX11_day_40 : decode cX11_day 40 = .ok (.ldc 246, 2) := by decide +kernel
theorem dX11_day_42 : decode cX11_day 42 = .ok (.goto 14, 3) := by decide +kernel
theorem dX11_day_45 : decode cX11_day 45 = .ok (.aload_n 0, 1) := by decide +kernel
theorem dX11_day_46 : decode cX11_day 46 = .ok (.getfield 243, 3) := by decide +kernel
theorem dX11_day_49 : decode cX11_day 49 = .ok (.aload_n 0, 1) := by decide +kernel
theorem dX11_day_50 : decode cX11_day 50 = .ok (.getfield 28, 3) := by decide +kernel
theorem dX11_day_53 : decode cX11_day 53 = .ok (.iload_n 1, 1) := by decide +kernel
theorem dX11_day_54 : decode cX11_day 54 = .ok (.iaload, 1) := by decide +kernel
theorem dX11_day_55 : decode cX11_day 55 = .ok (.iadd, 1) := by decide +kernel
theorem dX11_day_56 : decode cX11_day 56 = .ok (.putfield 243, 3) := by decide +kernel
theorem dX11_day_59 : decode cX11_day 59 = .ok (.iinc 1 1, 3) := by decide +kernel
theorem dX11_day_62 : decode cX11_day 62 = .ok (.goto (-60), 3) := by decide +kernel
theorem dX11_day_65 : decode cX11_day 65 = .ok (.aload_n 0, 1) := by decide +kernel
theorem dX11_day_66 : decode cX11_day 66 = .ok (.iconst 2, 1) := by decide +kernel
theorem dX11_day_67 : decode cX11_day 67 = .ok (.aload_n 0, 1) := by decide +kernel
theorem dX11_day_68 : decode cX11_day 68 = .ok (.getfield 133, 3) := by decide +kernel
theorem dX11_day_71 : decode cX11_day 71 = .ok (.invokevirtual 225, 3) := by decide +kernel
theorem dX11_day_74 : decode cX11_day 74 = .ok (.istore_n 1, 1) := by decide +kernel
theorem dX11_day_75 : decode cX11_day 75 = .ok (.aload_n 0, 1) := by decide +kernel
theorem dX11_day_76 : decode cX11_day 76 = .ok (.invokevirtual 247, 3) := by decide +kernel
theorem dX11_day_79 : decode cX11_day 79 = .ok (.istore_n 2, 1) := by decide +kernel
theorem dX11_day_80 : decode cX11_day 80 = .ok (.aload_n 0, 1) := by decide +kernel
theorem dX11_day_81 : decode cX11_day 81 = .ok (.getfield 243, 3) := by decide +kernel
theorem dX11_day_84 : decode cX11_day 84 = .ok (.iload_n 2, 1) := by decide +kernel
theorem dX11_day_85 : decode cX11_day 85 = .ok (.if_icmp .ge 7, 3) := by decide +kernel
theorem dX11_day_88 : decode cX11_day 88 = .ok (.iconst 1, 1) := by decide +kernel
theorem dX11_day_89 : decode cX11_day 89 = .ok (.goto 4, 3) := by decide +kernel
theorem dX11_day_92 : decode cX11_day 92 = .ok (.iconst 0, 1) := by decide +kernel
theorem dX11_day_93 : decode cX11_day 93 = .ok (.istore_n 3, 1) := by decide +kernel
theorem dX11_day_94 : decode cX11_day 94 = .ok (.aload_n 0, 1) := by decide +kernel
theorem dX11_day_95 : decode cX11_day 95 = .ok (.dup, 1) := by decide +kernel
theorem dX11_day_96 : decode cX11_day 96 = .ok (.getfield 243, 3) := by decide +kernel
theorem dX11_day_99 : decode cX11_day 99 = .ok (.iload_n 3, 1) := by decide +kernel
theorem dX11_day_100 : decode cX11_day 100 = .ok (.ifCond .eq 7, 3) := by decide +kernel
theorem dX11_day_103 : decode cX11_day 103 = .ok (.iconst 0, 1) := by decide +kernel
theorem dX11_day_104 : decode cX11_day 104 = .ok (.goto 4, 3) := by decide +kernel
theorem dX11_day_107 : decode cX11_day 107 = .ok (.iload_n 2, 1) := by decide +kernel
theorem dX11_day_108 : decode cX11_day 108 = .ok (.isub, 1) := by decide +kernel
theorem dX11_day_109 : decode cX11_day 109 = .ok (.putfield 243, 3) := by decide +kernel
theorem dX11_day_112 : decode cX11_day 112 = .ok (.aload_n 0, 1) := by decide +kernel
theorem dX11_day_113 : decode cX11_day 113 = .ok (.dup, 1) := by decide +kernel
theorem dX11_day_114 : decode cX11_day 114 = .ok (.getfield 250, 3) := by decide +kernel
theorem dX11_day_117 : decode cX11_day 117 = .ok (.iload_n 3, 1) := by decide +kernel
theorem dX11_day_118 : decode cX11_day 118 = .ok (.ifCond .eq 7, 3) := by decide +kernel
theorem dX11_day_121 : decode cX11_day 121 = .ok (.iconst 1, 1) := by decide +kernel
theorem dX11_day_122 : decode cX11_day 122 = .ok (.goto 4, 3) := by decide +kernel
theorem dX11_day_125 : decode cX11_day 125 = .ok (.iconst 0, 1) := by decide +kernel
theorem dX11_day_126 : decode cX11_day 126 = .ok (.iadd, 1) := by decide +kernel
theorem dX11_day_127 : decode cX11_day 127 = .ok (.putfield 250, 3) := by decide +kernel
theorem dX11_day_130 : decode cX11_day 130 = .ok (.iconst 0, 1) := by decide +kernel
theorem dX11_day_131 : decode cX11_day 131 = .ok (.istore 4, 2) := by decide +kernel
theorem dX11_day_133 : decode cX11_day 133 = .ok (.iload 4, 2) := by decide +kernel
theorem dX11_day_135 : decode cX11_day 135 = .ok (.aload_n 0, 1) := by decide +kernel
theorem dX11_day_136 : decode cX11_day 136 = .ok (.getfield 136, 3) := by decide +kernel
theorem dX11_day_139 : decode cX11_day 139 = .ok (.if_icmp .ge 128, 3) := by decide +kernel
theorem dX11_day_142 : decode cX11_day 142 = .ok (.aload_n 0, 1) := by decide +kernel
theorem dX11_day_143 : decode cX11_day 143 = .ok (.getfield 13, 3) := by decide +kernel
theorem dX11_day_146 : decode cX11_day 146 = .ok (.iload 4, 2) := by decide +kernel
theorem dX11_day_148 : decode cX11_day 148 = .ok (.iaload, 1) := by decide +kernel
theorem dX11_day_149 : decode cX11_day 149 = .ok (.iconst (-1), 1) := by decide +kernel
theorem dX11_day_150 : decode cX11_day 150 = .ok (.if_icmp .eq 35, 3) := by decide +kernel
theorem dX11_day_153 : decode cX11_day 153 = .ok (.aload_n 0, 1) := by decide +kernel
theorem dX11_day_154 : decode cX11_day 154 = .ok (.getfield 13, 3) := by decide +kernel
theorem dX11_day_157 : decode cX11_day 157 = .ok (.iload 4, 2) := by decide +kernel
theorem dX11_day_159 : decode cX11_day 159 = .ok (.iaload, 1) := by decide +kernel
theorem dX11_day_160 : decode cX11_day 160 = .ok (.bipush 30, 2) := by decide +kernel
theorem dX11_day_162 : decode cX11_day 162 = .ok (.if_icmp .eq 23, 3) := by decide +kernel
theorem dX11_day_165 : decode cX11_day 165 = .ok (.aload_n 0, 1) := by decide +kernel
theorem dX11_day_166 : decode cX11_day 166 = .ok (.getfield 60, 3) := by decide +kernel
theorem dX11_day_169 : decode cX11_day 169 = .ok (.aload_n 0, 1) := by decide +kernel
theorem dX11_day_170 : decode cX11_day 170 = .ok (.getfield 13, 3) := by decide +kernel
theorem dX11_day_173 : decode cX11_day 173 = .ok (.iload 4, 2) := by decide +kernel
theorem dX11_day_175 : decode cX11_day 175 = .ok (.iaload, 1) := by decide +kernel
theorem dX11_day_176 : decode cX11_day 176 = .ok (.iaload, 1) := by decide +kernel
theorem dX11_day_177 : decode cX11_day 177 = .ok (.iconst 2, 1) := by decide +kernel
theorem dX11_day_178 : decode cX11_day 178 = .ok (.if_icmp .ne 7, 3) := by decide +kernel
theorem dX11_day_181 : decode cX11_day 181 = .ok (.iconst 1, 1) := by decide +kernel
theorem dX11_day_182 : decode cX11_day 182 = .ok (.goto 4, 3) := by decide +kernel
theorem dX11_day_185 : decode cX11_day 185 = .ok (.iconst 0, 1) := by decide +kernel
theorem dX11_day_186 : decode cX11_day 186 = .ok (.istore 5, 2) := by decide +kernel
theorem dX11_day_188 : decode cX11_day 188 = .ok (.iload 5, 2) := by decide +kernel
theorem dX11_day_190 : decode cX11_day 190 = .ok (.ifCond .eq 46, 3) := by decide +kernel
theorem dX11_day_193 : decode cX11_day 193 = .ok (.aload_n 0, 1) := by decide +kernel
theorem dX11_day_194 : decode cX11_day 194 = .ok (.iconst 0, 1) := by decide +kernel
theorem dX11_day_195 : decode cX11_day 195 = .ok (.aload_n 0, 1) := by decide +kernel
theorem dX11_day_196 : decode cX11_day 196 = .ok (.getfield 133, 3) := by decide +kernel
theorem dX11_day_199 : decode cX11_day 199 = .ok (.invokevirtual 225, 3) := by decide +kernel
theorem dX11_day_202 : decode cX11_day 202 = .ok (.ifCond .eq 11, 3) := by decide +kernel
theorem dX11_day_205 : decode cX11_day 205 = .ok (.iload_n 1, 1) := by decide +kernel
theorem dX11_day_206 : decode cX11_day 206 = .ok (.ifCond .ne 7, 3) := by decide +kernel
theorem dX11_day_209 : decode cX11_day 209 = .ok (.iload_n 3, 1) := by decide +kernel
theorem dX11_day_210 : decode cX11_day 210 = .ok (.ifCond .eq 26, 3) := by decide +kernel
theorem dX11_day_213 : decode cX11_day 213 = .ok (.aload_n 0, 1) := by decide +kernel
theorem dX11_day_214 : decode cX11_day 214 = .ok (.getfield 60, 3) := by decide +kernel
theorem dX11_day_217 : decode cX11_day 217 = .ok (.aload_n 0, 1) := by decide +kernel
theorem dX11_day_218 : decode cX11_day 218 = .ok (.getfield 13, 3) := by decide +kernel
theorem dX11_day_221 : decode cX11_day 221 = .ok (.iload 4, 2) := by decide +kernel
theorem dX11_day_223 : decode cX11_day 223 = .ok (.iaload, 1) := by decide +kernel
theorem dX11_day_224 : decode cX11_day 224 = .ok (.bipush 6, 2) := by decide +kernel
theorem dX11_day_226 : decode cX11_day 226 = .ok (.iastore, 1) := by decide +kernel
theorem dX11_day_227 : decode cX11_day 227 = .ok (.aload_n 0, 1) := by decide +kernel
theorem dX11_day_228 : decode cX11_day 228 = .ok (.iload 4, 2) := by decide +kernel
theorem dX11_day_230 : decode cX11_day 230 = .ok (.invokevirtual 240, 3) := by decide +kernel
theorem dX11_day_233 : decode cX11_day 233 = .ok (.goto 28, 3) := by decide +kernel
theorem dX11_day_236 : decode cX11_day 236 = .ok (.aload_n 0, 1) := by decide +kernel
theorem dX11_day_237 : decode cX11_day 237 = .ok (.getfield 13, 3) := by decide +kernel
theorem dX11_day_240 : decode cX11_day 240 = .ok (.iload 4, 2) := by decide +kernel
theorem dX11_day_242 : decode cX11_day 242 = .ok (.iaload, 1) := by decide +kernel
theorem dX11_day_243 : decode cX11_day 243 = .ok (.iconst (-1), 1) := by decide +kernel
theorem dX11_day_244 : decode cX11_day 244 = .ok (.if_icmp .eq 17, 3) := by decide +kernel
theorem dX11_day_247 : decode cX11_day 247 = .ok (.iload_n 1, 1) := by decide +kernel
theorem dX11_day_248 : decode cX11_day 248 = .ok (.ifCond .ne 13, 3) := by decide +kernel
theorem dX11_day_251 : decode cX11_day 251 = .ok (.iload_n 3, 1) := by decide +kernel
theorem dX11_day_252 : decode cX11_day 252 = .ok (.ifCond .ne 9, 3) := by decide +kernel
theorem dX11_day_255 : decode cX11_day 255 = .ok (.aload_n 0, 1) := by decide +kernel
theorem dX11_day_256 : decode cX11_day 256 = .ok (.iload 4, 2) := by decide +kernel
theorem dX11_day_258 : decode cX11_day 258 = .ok (.invokevirtual 253, 3) := by decide +kernel
theorem dX11_day_261 : decode cX11_day 261 = .ok (.iinc 4 1, 3) := by decide +kernel
theorem dX11_day_264 : decode cX11_day 264 = .ok (.goto (-131), 3) := by decide +kernel
theorem dX11_day_267 : decode cX11_day 267 = .ok (.return_, 1) := by decide +kernel
theorem dX11_works_0 : decode cX11_works 0 = .ok (.aload_n 0, 1) := by decide +kernel
theorem dX11_works_1 : decode cX11_works 1 = .ok (.getfield 13, 3) := by decide +kernel
theorem dX11_works_4 : decode cX11_works 4 = .ok (.iload_n 1, 1) := by decide +kernel
theorem dX11_works_5 : decode cX11_works 5 = .ok (.iaload, 1) := by decide +kernel
theorem dX11_works_6 : decode cX11_works 6 = .ok (.istore_n 2, 1) := by decide +kernel
theorem dX11_works_7 : decode cX11_works 7 = .ok (.iload_n 2, 1) := by decide +kernel
theorem dX11_works_8 : decode cX11_works 8 = .ok (.bipush 30, 2) := by decide +kernel
theorem dX11_works_10 : decode cX11_works 10 = .ok (.if_icmp .eq 12, 3) := by decide +kernel
theorem dX11_works_13 : decode cX11_works 13 = .ok (.aload_n 0, 1) := by decide +kernel
theorem dX11_works_14 : decode cX11_works 14 = .ok (.getfield 60, 3) := by decide +kernel
theorem dX11_works_17 : decode cX11_works 17 = .ok (.iload_n 2, 1) := by decide +kernel
theorem dX11_works_18 : decode cX11_works 18 = .ok (.iaload, 1) := by decide +kernel
theorem dX11_works_19 : decode cX11_works 19 = .ok (.ifCond .ne 21, 3) := by decide +kernel
theorem dX11_works_22 : decode cX11_works 22 = .ok (.aload_n 0, 1) := by decide +kernel
theorem dX11_works_23 : decode cX11_works 23 = .ok (.getfield 16, 3) := by decide +kernel
theorem dX11_works_26 : decode cX11_works 26 = .ok (.iload_n 1, 1) := by decide +kernel
theorem dX11_works_27 : decode cX11_works 27 = .ok (.dup2, 1) := by decide +kernel
theorem dX11_works_28 : decode cX11_works 28 = .ok (.iaload, 1) := by decide +kernel
theorem dX11_works_29 : decode cX11_works 29 = .ok (.aload_n 0, 1) := by decide +kernel
theorem dX11_works_30 : decode cX11_works 30 = .ok (.getfield 9, 3) := by decide +kernel
theorem dX11_works_33 : decode cX11_works 33 = .ok (.iload_n 1, 1) := by decide +kernel
theorem dX11_works_34 : decode cX11_works 34 = .ok (.iaload, 1) := by decide +kernel
theorem dX11_works_35 : decode cX11_works 35 = .ok (.isub, 1) := by decide +kernel
theorem dX11_works_36 : decode cX11_works 36 = .ok (.iastore, 1) := by decide +kernel
theorem dX11_works_37 : decode cX11_works 37 = .ok (.goto 66, 3) := by decide +kernel
theorem dX11_works_40 : decode cX11_works 40 = .ok (.aload_n 0, 1) := by decide +kernel
theorem dX11_works_41 : decode cX11_works 41 = .ok (.iload_n 2, 1) := by decide +kernel
theorem dX11_works_42 : decode cX11_works 42 = .ok (.aload_n 0, 1) := by decide +kernel
theorem dX11_works_43 : decode cX11_works 43 = .ok (.getfield 60, 3) := by decide +kernel
theorem dX11_works_46 : decode cX11_works 46 = .ok (.iload_n 2, 1) := by decide +kernel
theorem dX11_works_47 : decode cX11_works 47 = .ok (.iaload, 1) := by decide +kernel
theorem dX11_works_48 : decode cX11_works 48 = .ok (.aload_n 0, 1) := by decide +kernel
theorem dX11_works_49 : decode cX11_works 49 = .ok (.iconst 1, 1) := by decide +kernel
theorem dX11_works_50 : decode cX11_works 50 = .ok (.aload_n 0, 1) := by decide +kernel
theorem dX11_works_51 : decode cX11_works 51 = .ok (.getfield 133, 3) := by decide +kernel
theorem dX11_works_54 : decode cX11_works 54 = .ok (.invokevirtual 225, 3) := by decide +kernel
theorem dX11_works_57 : decode cX11_works 57 = .ok (.invokevirtual 229, 3) := by decide +kernel
theorem dX11_works_60 : decode cX11_works 60 = .ok (.istore_n 3, 1) := by decide +kernel
theorem dX11_works_61 : decode cX11_works 61 = .ok (.iload_n 3, 1) := by decide +kernel
theorem dX11_works_62 : decode cX11_works 62 = .ok (.aload_n 0, 1) := by decide +kernel
theorem dX11_works_63 : decode cX11_works 63 = .ok (.getfield 44, 3) := by decide +kernel
theorem dX11_works_66 : decode cX11_works 66 = .ok (.bipush 7, 2) := by decide +kernel
theorem dX11_works_68 : decode cX11_works 68 = .ok (.iaload, 1) := by decide +kernel
theorem dX11_works_69 : decode cX11_works 69 = .ok (.if_icmp .gt 13, 3) := by decide +kernel
theorem dX11_works_72 : decode cX11_works 72 = .ok (.iload_n 3, 1) := by decide +kernel
theorem dX11_works_73 : decode cX11_works 73 = .ok (.aload_n 0, 1) := by decide +kernel
theorem dX11_works_74 : decode cX11_works 74 = .ok (.getfield 9, 3) := by decide +kernel
theorem dX11_works_77 : decode cX11_works 77 = .ok (.iload_n 1, 1) := by decide +kernel
theorem dX11_works_78 : decode cX11_works 78 = .ok (.iaload, 1) := by decide +kernel
theorem dX11_works_79 : decode cX11_works 79 = .ok (.if_icmp .le 14, 3) := by decide +kernel
theorem dX11_works_82 : decode cX11_works 82 = .ok (.aload_n 0, 1) := by decide +kernel
theorem dX11_works_83 : decode cX11_works 83 = .ok (.getfield 22, 3) := by decide +kernel
theorem dX11_works_86 : decode cX11_works 86 = .ok (.iload_n 1, 1) := by decide +kernel
theorem dX11_works_87 : decode cX11_works 87 = .ok (.dup2, 1) := by decide +kernel
theorem dX11_works_88 : decode cX11_works 88 = .ok (.iaload, 1) := by decide +kernel
theorem dX11_works_89 : decode cX11_works 89 = .ok (.iconst 1, 1) := by decide +kernel
theorem dX11_works_90 : decode cX11_works 90 = .ok (.iadd, 1) := by decide +kernel
theorem dX11_works_91 : decode cX11_works 91 = .ok (.iastore, 1) := by decide +kernel
theorem dX11_works_92 : decode cX11_works 92 = .ok (.return_, 1) := by decide +kernel
theorem dX11_works_93 : decode cX11_works 93 = .ok (.aload_n 0, 1) := by decide +kernel
theorem dX11_works_94 : decode cX11_works 94 = .ok (.getfield 16, 3) := by decide +kernel
theorem dX11_works_97 : decode cX11_works 97 = .ok (.iload_n 1, 1) := by decide +kernel
theorem dX11_works_98 : decode cX11_works 98 = .ok (.dup2, 1) := by decide +kernel
theorem dX11_works_99 : decode cX11_works 99 = .ok (.iaload, 1) := by decide +kernel
theorem dX11_works_100 : decode cX11_works 100 = .ok (.iconst 1, 1) := by decide +kernel
theorem dX11_works_101 : decode cX11_works 101 = .ok (.isub, 1) := by decide +kernel
theorem dX11_works_102 : decode cX11_works 102 = .ok (.iastore, 1) := by decide +kernel
theorem dX11_works_103 : decode cX11_works 103 = .ok (.aload_n 0, 1) := by decide +kernel
theorem dX11_works_104 : decode cX11_works 104 = .ok (.getfield 16, 3) := by decide +kernel
theorem dX11_works_107 : decode cX11_works 107 = .ok (.iload_n 1, 1) := by decide +kernel
theorem dX11_works_108 : decode cX11_works 108 = .ok (.iaload, 1) := by decide +kernel
theorem dX11_works_109 : decode cX11_works 109 = .ok (.ifCond .le 4, 3) := by decide +kernel
theorem dX11_works_112 : decode cX11_works 112 = .ok (.return_, 1) := by decide +kernel
theorem dX11_works_113 : decode cX11_works 113 = .ok (.aload_n 0, 1) := by decide +kernel
theorem dX11_works_114 : decode cX11_works 114 = .ok (.iload_n 1, 1) := by decide +kernel
theorem dX11_works_115 : decode cX11_works 115 = .ok (.invokevirtual 240, 3) := by decide +kernel
theorem dX11_works_118 : decode cX11_works 118 = .ok (.iload_n 2, 1) := by decide +kernel
theorem dX11_works_119 : decode cX11_works 119 = .ok (.bipush 30, 2) := by decide +kernel
theorem dX11_works_121 : decode cX11_works 121 = .ok (.if_icmp .ne 14, 3) := by decide +kernel
theorem dX11_works_124 : decode cX11_works 124 = .ok (.aload_n 0, 1) := by decide +kernel
theorem dX11_works_125 : decode cX11_works 125 = .ok (.dup, 1) := by decide +kernel
theorem dX11_works_126 : decode cX11_works 126 = .ok (.getfield 233, 3) := by decide +kernel
theorem dX11_works_129 : decode cX11_works 129 = .ok (.iconst 1, 1) := by decide +kernel
theorem dX11_works_130 : decode cX11_works 130 = .ok (.iadd, 1) := by decide +kernel
theorem dX11_works_131 : decode cX11_works 131 = .ok (.putfield 233, 3) := by decide +kernel
theorem dX11_works_134 : decode cX11_works 134 = .ok (.return_, 1) := by decide +kernel
theorem dX11_works_135 : decode cX11_works 135 = .ok (.aload_n 0, 1) := by decide +kernel
theorem dX11_works_136 : decode cX11_works 136 = .ok (.getfield 60, 3) := by decide +kernel
theorem dX11_works_139 : decode cX11_works 139 = .ok (.iload_n 2, 1) := by decide +kernel
theorem dX11_works_140 : decode cX11_works 140 = .ok (.dup2, 1) := by decide +kernel
theorem dX11_works_141 : decode cX11_works 141 = .ok (.iaload, 1) := by decide +kernel
theorem dX11_works_142 : decode cX11_works 142 = .ok (.iconst 1, 1) := by decide +kernel
theorem dX11_works_143 : decode cX11_works 143 = .ok (.iadd, 1) := by decide +kernel
theorem dX11_works_144 : decode cX11_works 144 = .ok (.iastore, 1) := by decide +kernel
theorem dX11_works_145 : decode cX11_works 145 = .ok (.aload_n 0, 1) := by decide +kernel
theorem dX11_works_146 : decode cX11_works 146 = .ok (.getfield 60, 3) := by decide +kernel
theorem dX11_works_149 : decode cX11_works 149 = .ok (.iload_n 2, 1) := by decide +kernel
theorem dX11_works_150 : decode cX11_works 150 = .ok (.iaload, 1) := by decide +kernel
theorem dX11_works_151 : decode cX11_works 151 = .ok (.iconst 5, 1) := by decide +kernel
theorem dX11_works_152 : decode cX11_works 152 = .ok (.if_icmp .ne 30, 3) := by decide +kernel
theorem dX11_works_155 : decode cX11_works 155 = .ok (.aload_n 0, 1) := by decide +kernel
theorem dX11_works_156 : decode cX11_works 156 = .ok (.getfield 63, 3) := by decide +kernel
theorem dX11_works_159 : decode cX11_works 159 = .ok (.iload_n 2, 1) := by decide +kernel
theorem dX11_works_160 : decode cX11_works 160 = .ok (.iload_n 1, 1) := by decide +kernel
theorem dX11_works_161 : decode cX11_works 161 = .ok (.iastore, 1) := by decide +kernel
theorem dX11_works_162 : decode cX11_works 162 = .ok (.aload_n 0, 1) := by decide +kernel
theorem dX11_works_163 : decode cX11_works 163 = .ok (.getfield 66, 3) := by decide +kernel
theorem dX11_works_166 : decode cX11_works 166 = .ok (.iload_n 2, 1) := by decide +kernel
theorem dX11_works_167 : decode cX11_works 167 = .ok (.aload_n 0, 1) := by decide +kernel
theorem dX11_works_168 : decode cX11_works 168 = .ok (.getfield 133, 3) := by decide +kernel
theorem dX11_works_171 : decode cX11_works 171 = .ok (.iastore, 1) := by decide +kernel
theorem dX11_works_172 : decode cX11_works 172 = .ok (.aload_n 0, 1) := by decide +kernel
theorem dX11_works_173 : decode cX11_works 173 = .ok (.getfield 19, 3) := by decide +kernel
theorem dX11_works_176 : decode cX11_works 176 = .ok (.iload_n 1, 1) := by decide +kernel
theorem dX11_works_177 : decode cX11_works 177 = .ok (.dup2, 1) := by decide +kernel
theorem dX11_works_178 : decode cX11_works 178 = .ok (.iaload, 1) := by decide +kernel
theorem dX11_works_179 : decode cX11_works 179 = .ok (.iconst 1, 1) := by decide +kernel
theorem dX11_works_180 : decode cX11_works 180 = .ok (.iadd, 1) := by decide +kernel
theorem dX11_works_181 : decode cX11_works 181 = .ok (.iastore, 1) := by decide +kernel
theorem dX11_works_182 : decode cX11_works 182 = .ok (.return_, 1) := by decide +kernel
theorem dX11_pass_0 : decode cX11_pass 0 = .ok (.iload_n 1, 1) := by decide +kernel
theorem dX11_pass_1 : decode cX11_pass 1 = .ok (.iconst 1, 1) := by decide +kernel
theorem dX11_pass_2 : decode cX11_pass 2 = .ok (.sipush 400, 3) := by decide +kernel
theorem dX11_pass_5 : decode cX11_pass 5 = .ok (.invokestatic 139, 3) := by decide +kernel
theorem dX11_pass_8 : decode cX11_pass 8 = .ok (.ifCond .eq 15, 3) := by decide +kernel
theorem dX11_pass_11 : decode cX11_pass 11 = .ok (.aload_n 0, 1) := by decide +kernel
theorem dX11_pass_12 : decode cX11_pass 12 = .ok (.getfield 133, 3) := by decide +kernel
theorem dX11_pass_15 : decode cX11_pass 15 = .ok (.iload_n 1, 1) := by decide +kernel
theorem dX11_pass_16 : decode cX11_pass 16 = .ok (.iadd, 1) := by decide +kernel
theorem dX11_pass_17 : decode cX11_pass 17 = .ok (.sipush 3001, 3) := by decide +kernel
theorem dX11_pass_20 : decode cX11_pass 20 = .ok (.if_icmp .le 5, 3) := by decide +kernel
theorem dX11_pass_23 : decode cX11_pass 23 = .ok (.iconst (-1), 1) := by decide +kernel
theorem dX11_pass_24 : decode cX11_pass 24 = .ok (.ireturn, 1) := by decide +kernel
theorem dX11_pass_25 : decode cX11_pass 25 = .ok (.iconst 0, 1) := by decide +kernel
theorem dX11_pass_26 : decode cX11_pass 26 = .ok (.istore_n 2, 1) := by decide +kernel
theorem dX11_pass_27 : decode cX11_pass 27 = .ok (.iload_n 2, 1) := by decide +kernel
theorem dX11_pass_28 : decode cX11_pass 28 = .ok (.iload_n 1, 1) := by decide +kernel
theorem dX11_pass_29 : decode cX11_pass 29 = .ok (.if_icmp .ge 23, 3) := by decide +kernel
theorem dX11_pass_32 : decode cX11_pass 32 = .ok (.aload_n 0, 1) := by decide +kernel
theorem dX11_pass_33 : decode cX11_pass 33 = .ok (.invokevirtual 256, 3) := by decide +kernel
theorem dX11_pass_36 : decode cX11_pass 36 = .ok (.aload_n 0, 1) := by decide +kernel
theorem dX11_pass_37 : decode cX11_pass 37 = .ok (.dup, 1) := by decide +kernel
theorem dX11_pass_38 : decode cX11_pass 38 = .ok (.getfield 133, 3) := by decide +kernel
theorem dX11_pass_41 : decode cX11_pass 41 = .ok (.iconst 1, 1) := by decide +kernel
theorem dX11_pass_42 : decode cX11_pass 42 = .ok (.iadd, 1) := by decide +kernel
theorem dX11_pass_43 : decode cX11_pass 43 = .ok (.putfield 133, 3) := by decide +kernel
theorem dX11_pass_46 : decode cX11_pass 46 = .ok (.iinc 2 1, 3) := by decide +kernel
theorem dX11_pass_49 : decode cX11_pass 49 = .ok (.goto (-22), 3) := by decide +kernel
theorem dX11_pass_52 : decode cX11_pass 52 = .ok (.aload_n 0, 1) := by decide +kernel
theorem dX11_pass_53 : decode cX11_pass 53 = .ok (.getfield 133, 3) := by decide +kernel
theorem dX11_pass_56 : decode cX11_pass 56 = .ok (.ireturn, 1) := by decide +kernel
theorem dX11_about_0 : decode cX11_about 0 = .ok (.iload_n 1, 1) := by decide +kernel
theorem dX11_about_1 : decode cX11_about 1 = .ok (.iconst 0, 1) := by decide +kernel
theorem dX11_about_2 : decode cX11_about 2 = .ok (.aload_n 0, 1) := by decide +kernel
theorem dX11_about_3 : decode cX11_about 3 = .ok (.getfield 216, 3) := by decide +kernel
theorem dX11_about_6 : decode cX11_about 6 = .ok (.iconst 1, 1) := by decide +kernel
theorem dX11_about_7 : decode cX11_about 7 = .ok (.isub, 1) := by decide +kernel
theorem dX11_about_8 : decode cX11_about 8 = .ok (.invokestatic 139, 3) := by decide +kernel
theorem dX11_about_11 : decode cX11_about 11 = .ok (.ifCond .ne 5, 3) := by decide +kernel
theorem dX11_about_14 : decode cX11_about 14 = .ok (.iconst (-1), 1) := by decide +kernel
theorem dX11_about_15 : decode cX11_about 15 = .ok (.ireturn, 1) := by decide +kernel
theorem dX11_about_16 : decode cX11_about 16 = .ok (.iload_n 2, 1) := by decide +kernel
theorem dX11_about_17 : decode cX11_about 17 = .ok (.tableswitch 75 0 4 #[35, 42, 48, 55, 62], 35) := by decide +kernel
theorem dX11_about_52 : decode cX11_about 52 = .ok (.aload_n 0, 1) := by decide +kernel
theorem dX11_about_53 : decode cX11_about 53 = .ok (.getfield 60, 3) := by decide +kernel
theorem dX11_about_56 : decode cX11_about 56 = .ok (.iload_n 1, 1) := by decide +kernel
theorem dX11_about_57 : decode cX11_about 57 = .ok (.iaload, 1) := by decide +kernel
theorem dX11_about_58 : decode cX11_about 58 = .ok (.ireturn, 1) := by decide +kernel
theorem dX11_about_59 : decode cX11_about 59 = .ok (.aload_n 0, 1) := by decide +kernel
theorem dX11_about_60 : decode cX11_about 60 = .ok (.iload_n 1, 1) := by decide +kernel
theorem dX11_about_61 : decode cX11_about 61 = .ok (.invokevirtual 222, 3) := by decide +kernel
theorem dX11_about_64 : decode cX11_about 64 = .ok (.ireturn, 1) := by decide +kernel
theorem dX11_about_65 : decode cX11_about 65 = .ok (.aload_n 0, 1) := by decide +kernel
theorem dX11_about_66 : decode cX11_about 66 = .ok (.getfield 63, 3) := by decide +kernel
theorem dX11_about_69 : decode cX11_about 69 = .ok (.iload_n 1, 1) := by decide +kernel
theorem dX11_about_70 : decode cX11_about 70 = .ok (.iaload, 1) := by decide +kernel
theorem dX11_about_71 : decode cX11_about 71 = .ok (.ireturn, 1) := by decide +kernel
theorem dX11_about_72 : decode cX11_about 72 = .ok (.aload_n 0, 1) := by decide +kernel
theorem dX11_about_73 : decode cX11_about 73 = .ok (.getfield 66, 3) := by decide +kernel
theorem dX11_about_76 : decode cX11_about 76 = .ok (.iload_n 1, 1) := by decide +kernel
theorem dX11_about_77 : decode cX11_about 77 = .ok (.iaload, 1) := by decide +kernel
theorem dX11_about_78 : decode cX11_about 78 = .ok (.ireturn, 1) := by decide +kernel
theorem dX11_about_79 : decode cX11_about 79 = .ok (.aload_n 0, 1) := by decide +kernel
theorem dX11_about_80 : decode cX11_about 80 = .ok (.iload_n 1, 1) := by decide +kernel
theorem dX11_about_81 : decode cX11_about 81 = .ok (.aload_n 0, 1) := by decide +kernel
theorem dX11_about_82 : decode cX11_about 82 = .ok (.getfield 60, 3) := by decide +kernel
theorem dX11_about_85 : decode cX11_about 85 = .ok (.iload_n 1, 1) := by decide +kernel
theorem dX11_about_86 : decode cX11_about 86 = .ok (.iaload, 1) := by decide +kernel
theorem dX11_about_87 : decode cX11_about 87 = .ok (.iconst 0, 1) := by decide +kernel
theorem dX11_about_88 : decode cX11_about 88 = .ok (.invokevirtual 229, 3) := by decide +kernel
theorem dX11_about_91 : decode cX11_about 91 = .ok (.ireturn, 1) := by decide +kernel
theorem dX11_about_92 : decode cX11_about 92 = .ok (.iconst (-1), 1) := by decide +kernel
theorem dX11_about_93 : decode cX11_about 93 = .ok (.ireturn, 1) := by decide +kernel
theorem dX11_gangs_0 : decode cX11_gangs 0 = .ok (.iload_n 1, 1) := by decide +kernel
theorem dX11_gangs_1 : decode cX11_gangs 1 = .ok (.iconst 0, 1) := by decide +kernel
theorem dX11_gangs_2 : decode cX11_gangs 2 = .ok (.aload_n 0, 1) := by decide +kernel
theorem dX11_gangs_3 : decode cX11_gangs 3 = .ok (.getfield 136, 3) := by decide +kernel
theorem dX11_gangs_6 : decode cX11_gangs 6 = .ok (.iconst 1, 1) := by decide +kernel
theorem dX11_gangs_7 : decode cX11_gangs 7 = .ok (.isub, 1) := by decide +kernel
theorem dX11_gangs_8 : decode cX11_gangs 8 = .ok (.invokestatic 139, 3) := by decide +kernel
theorem dX11_gangs_11 : decode cX11_gangs 11 = .ok (.ifCond .ne 5, 3) := by decide +kernel
theorem dX11_gangs_14 : decode cX11_gangs 14 = .ok (.iconst (-1), 1) := by decide +kernel
theorem dX11_gangs_15 : decode cX11_gangs 15 = .ok (.ireturn, 1) := by decide +kernel
theorem dX11_gangs_16 : decode cX11_gangs 16 = .ok (.iload_n 2, 1) := by decide +kernel
theorem dX11_gangs_17 : decode cX11_gangs 17 = .ok (.tableswitch 70 0 4 #[35, 42, 49, 56, 63], 35) := by decide +kernel
theorem dX11_gangs_52 : decode cX11_gangs 52 = .ok (.aload_n 0, 1) := by decide +kernel
theorem dX11_gangs_53 : decode cX11_gangs 53 = .ok (.getfield 9, 3) := by decide +kernel
theorem dX11_gangs_56 : decode cX11_gangs 56 = .ok (.iload_n 1, 1) := by decide +kernel
theorem dX11_gangs_57 : decode cX11_gangs 57 = .ok (.iaload, 1) := by decide +kernel
theorem dX11_gangs_58 : decode cX11_gangs 58 = .ok (.ireturn, 1) := by decide +kernel
theorem dX11_gangs_59 : decode cX11_gangs 59 = .ok (.aload_n 0, 1) := by decide +kernel
theorem dX11_gangs_60 : decode cX11_gangs 60 = .ok (.getfield 13, 3) := by decide +kernel
theorem dX11_gangs_63 : decode cX11_gangs 63 = .ok (.iload_n 1, 1) := by decide +kernel
theorem dX11_gangs_64 : decode cX11_gangs 64 = .ok (.iaload, 1) := by decide +kernel
theorem dX11_gangs_65 : decode cX11_gangs 65 = .ok (.ireturn, 1) := by decide +kernel
theorem dX11_gangs_66 : decode cX11_gangs 66 = .ok (.aload_n 0, 1) := by decide +kernel
theorem dX11_gangs_67 : decode cX11_gangs 67 = .ok (.getfield 16, 3) := by decide +kernel
theorem dX11_gangs_70 : decode cX11_gangs 70 = .ok (.iload_n 1, 1) := by decide +kernel
theorem dX11_gangs_71 : decode cX11_gangs 71 = .ok (.iaload, 1) := by decide +kernel
theorem dX11_gangs_72 : decode cX11_gangs 72 = .ok (.ireturn, 1) := by decide +kernel
theorem dX11_gangs_73 : decode cX11_gangs 73 = .ok (.aload_n 0, 1) := by decide +kernel
theorem dX11_gangs_74 : decode cX11_gangs 74 = .ok (.getfield 19, 3) := by decide +kernel
theorem dX11_gangs_77 : decode cX11_gangs 77 = .ok (.iload_n 1, 1) := by decide +kernel
theorem dX11_gangs_78 : decode cX11_gangs 78 = .ok (.iaload, 1) := by decide +kernel
theorem dX11_gangs_79 : decode cX11_gangs 79 = .ok (.ireturn, 1) := by decide +kernel
theorem dX11_gangs_80 : decode cX11_gangs 80 = .ok (.aload_n 0, 1) := by decide +kernel
theorem dX11_gangs_81 : decode cX11_gangs 81 = .ok (.getfield 22, 3) := by decide +kernel
theorem dX11_gangs_84 : decode cX11_gangs 84 = .ok (.iload_n 1, 1) := by decide +kernel
theorem dX11_gangs_85 : decode cX11_gangs 85 = .ok (.iaload, 1) := by decide +kernel
theorem dX11_gangs_86 : decode cX11_gangs 86 = .ok (.ireturn, 1) := by decide +kernel
theorem dX11_gangs_87 : decode cX11_gangs 87 = .ok (.iconst (-1), 1) := by decide +kernel
theorem dX11_gangs_88 : decode cX11_gangs 88 = .ok (.ireturn, 1) := by decide +kernel
theorem dX11_can_0 : decode cX11_can 0 = .ok (.aload_n 0, 1) := by decide +kernel
theorem dX11_can_1 : decode cX11_can 1 = .ok (.getfield 13, 3) := by decide +kernel
theorem dX11_can_4 : decode cX11_can 4 = .ok (.iload_n 1, 1) := by decide +kernel
theorem dX11_can_5 : decode cX11_can 5 = .ok (.iaload, 1) := by decide +kernel
theorem dX11_can_6 : decode cX11_can 6 = .ok (.iconst (-1), 1) := by decide +kernel
theorem dX11_can_7 : decode cX11_can 7 = .ok (.if_icmp .ne 26, 3) := by decide +kernel
theorem dX11_can_10 : decode cX11_can 10 = .ok (.aload_n 0, 1) := by decide +kernel
theorem dX11_can_11 : decode cX11_can 11 = .ok (.getfield 60, 3) := by decide +kernel
theorem dX11_can_14 : decode cX11_can 14 = .ok (.iload_n 2, 1) := by decide +kernel
theorem dX11_can_15 : decode cX11_can 15 = .ok (.iaload, 1) := by decide +kernel
theorem dX11_can_16 : decode cX11_can 16 = .ok (.iconst 3, 1) := by decide +kernel
theorem dX11_can_17 : decode cX11_can 17 = .ok (.if_icmp .gt 18, 3) := by decide +kernel
theorem dX11_can_20 : decode cX11_can 20 = .ok (.aload_n 0, 1) := by decide +kernel
theorem dX11_can_21 : decode cX11_can 21 = .ok (.getfield 233, 3) := by decide +kernel
theorem dX11_can_24 : decode cX11_can 24 = .ok (.aload_n 0, 1) := by decide +kernel
theorem dX11_can_25 : decode cX11_can 25 = .ok (.getfield 57, 3) := by decide +kernel
theorem dX11_can_28 : decode cX11_can 28 = .ok (.iload_n 2, 1) := by decide +kernel
theorem dX11_can_29 : decode cX11_can 29 = .ok (.iaload, 1) := by decide +kernel
theorem dX11_can_30 : decode cX11_can 30 = .ok (.if_icmp .gt 5, 3) := by decide +kernel
theorem dX11_can_33 : decode cX11_can 33 = .ok (.iconst 0, 1) := by decide +kernel
theorem dX11_can_34 : decode cX11_can 34 = .ok (.ireturn, 1) := by decide +kernel
theorem dX11_can_35 : decode cX11_can 35 = .ok (.aload_n 0, 1) := by decide +kernel
theorem dX11_can_36 : decode cX11_can 36 = .ok (.iload_n 2, 1) := by decide +kernel
theorem dX11_can_37 : decode cX11_can 37 = .ok (.iconst 4, 1) := by decide +kernel
theorem dX11_can_38 : decode cX11_can 38 = .ok (.iconst 0, 1) := by decide +kernel
theorem dX11_can_39 : decode cX11_can 39 = .ok (.invokevirtual 229, 3) := by decide +kernel
theorem dX11_can_42 : decode cX11_can 42 = .ok (.aload_n 0, 1) := by decide +kernel
theorem dX11_can_43 : decode cX11_can 43 = .ok (.getfield 9, 3) := by decide +kernel
theorem dX11_can_46 : decode cX11_can 46 = .ok (.iload_n 1, 1) := by decide +kernel
theorem dX11_can_47 : decode cX11_can 47 = .ok (.iaload, 1) := by decide +kernel
theorem dX11_can_48 : decode cX11_can 48 = .ok (.if_icmp .gt 7, 3) := by decide +kernel
theorem dX11_can_51 : decode cX11_can 51 = .ok (.iconst 1, 1) := by decide +kernel
theorem dX11_can_52 : decode cX11_can 52 = .ok (.goto 4, 3) := by decide +kernel
theorem dX11_can_55 : decode cX11_can 55 = .ok (.iconst 0, 1) := by decide +kernel
theorem dX11_can_56 : decode cX11_can 56 = .ok (.istore_n 3, 1) := by decide +kernel
theorem dX11_can_57 : decode cX11_can 57 = .ok (.iload_n 3, 1) := by decide +kernel
theorem dX11_can_58 : decode cX11_can 58 = .ok (.ifCond .eq 33, 3) := by decide +kernel
theorem dX11_can_61 : decode cX11_can 61 = .ok (.aload_n 0, 1) := by decide +kernel
theorem dX11_can_62 : decode cX11_can 62 = .ok (.getfield 60, 3) := by decide +kernel
theorem dX11_can_65 : decode cX11_can 65 = .ok (.iload_n 2, 1) := by decide +kernel
theorem dX11_can_66 : decode cX11_can 66 = .ok (.iaload, 1) := by decide +kernel
theorem dX11_can_67 : decode cX11_can 67 = .ok (.iconst 1, 1) := by decide +kernel
theorem dX11_can_68 : decode cX11_can 68 = .ok (.if_icmp .gt 19, 3) := by decide +kernel
theorem dX11_can_71 : decode cX11_can 71 = .ok (.aload_n 0, 1) := by decide +kernel
theorem dX11_can_72 : decode cX11_can 72 = .ok (.iload_n 2, 1) := by decide +kernel
theorem dX11_can_73 : decode cX11_can 73 = .ok (.iconst 1, 1) := by decide +kernel
theorem dX11_can_74 : decode cX11_can 74 = .ok (.iconst 0, 1) := by decide +kernel
theorem dX11_can_75 : decode cX11_can 75 = .ok (.invokevirtual 229, 3) := by decide +kernel
theorem dX11_can_78 : decode cX11_can 78 = .ok (.aload_n 0, 1) := by decide +kernel
theorem dX11_can_79 : decode cX11_can 79 = .ok (.getfield 9, 3) := by decide +kernel
theorem dX11_can_82 : decode cX11_can 82 = .ok (.iload_n 1, 1) := by decide +kernel
theorem dX11_can_83 : decode cX11_can 83 = .ok (.iaload, 1) := by decide +kernel
theorem dX11_can_84 : decode cX11_can 84 = .ok (.if_icmp .gt 7, 3) := by decide +kernel
theorem dX11_can_87 : decode cX11_can 87 = .ok (.iconst 1, 1) := by decide +kernel
theorem dX11_can_88 : decode cX11_can 88 = .ok (.goto 4, 3) := by decide +kernel
theorem dX11_can_91 : decode cX11_can 91 = .ok (.iconst 0, 1) := by decide +kernel
theorem dX11_can_92 : decode cX11_can 92 = .ok (.istore_n 3, 1) := by decide +kernel
theorem dX11_can_93 : decode cX11_can 93 = .ok (.iload_n 3, 1) := by decide +kernel
theorem dX11_can_94 : decode cX11_can 94 = .ok (.ifCond .eq 33, 3) := by decide +kernel
theorem dX11_can_97 : decode cX11_can 97 = .ok (.aload_n 0, 1) := by decide +kernel
theorem dX11_can_98 : decode cX11_can 98 = .ok (.getfield 60, 3) := by decide +kernel
theorem dX11_can_101 : decode cX11_can 101 = .ok (.iload_n 2, 1) := by decide +kernel
theorem dX11_can_102 : decode cX11_can 102 = .ok (.iaload, 1) := by decide +kernel
theorem dX11_can_103 : decode cX11_can 103 = .ok (.iconst 3, 1) := by decide +kernel
theorem dX11_can_104 : decode cX11_can 104 = .ok (.if_icmp .gt 19, 3) := by decide +kernel
theorem dX11_can_107 : decode cX11_can 107 = .ok (.aload_n 0, 1) := by decide +kernel
theorem dX11_can_108 : decode cX11_can 108 = .ok (.iload_n 2, 1) := by decide +kernel
theorem dX11_can_109 : decode cX11_can 109 = .ok (.iconst 3, 1) := by decide +kernel
theorem dX11_can_110 : decode cX11_can 110 = .ok (.iconst 0, 1) := by decide +kernel
theorem dX11_can_111 : decode cX11_can 111 = .ok (.invokevirtual 229, 3) := by decide +kernel
theorem dX11_can_114 : decode cX11_can 114 = .ok (.aload_n 0, 1) := by decide +kernel
theorem dX11_can_115 : decode cX11_can 115 = .ok (.getfield 9, 3) := by decide +kernel
theorem dX11_can_118 : decode cX11_can 118 = .ok (.iload_n 1, 1) := by decide +kernel
theorem dX11_can_119 : decode cX11_can 119 = .ok (.iaload, 1) := by decide +kernel
theorem dX11_can_120 : decode cX11_can 120 = .ok (.if_icmp .gt 7, 3) := by decide +kernel
theorem dX11_can_123 : decode cX11_can 123 = .ok (.iconst 1, 1) := by decide +kernel
theorem dX11_can_124 : decode cX11_can 124 = .ok (.goto 4, 3) := by decide +kernel
theorem dX11_can_127 : decode cX11_can 127 = .ok (.iconst 0, 1) := by decide +kernel
theorem dX11_can_128 : decode cX11_can 128 = .ok (.ireturn, 1) := by decide +kernel
theorem dX11_rivers_0 : decode cX11_rivers 0 = .ok (.iconst 0, 1) := by decide +kernel
theorem dX11_rivers_1 : decode cX11_rivers 1 = .ok (.istore_n 1, 1) := by decide +kernel
theorem dX11_rivers_2 : decode cX11_rivers 2 = .ok (.aload_n 0, 1) := by decide +kernel
theorem dX11_rivers_3 : decode cX11_rivers 3 = .ok (.getfield 99, 3) := by decide +kernel
theorem dX11_rivers_6 : decode cX11_rivers 6 = .ok (.sipush 3001, 3) := by decide +kernel
theorem dX11_rivers_9 : decode cX11_rivers 9 = .ok (.iconst (-1), 1) := by decide +kernel
theorem dX11_rivers_10 : decode cX11_rivers 10 = .ok (.iastore, 1) := by decide +kernel
theorem dX11_rivers_11 : decode cX11_rivers 11 = .ok (.sipush 3000, 3) := by decide +kernel
theorem dX11_rivers_14 : decode cX11_rivers 14 = .ok (.istore_n 2, 1) := by decide +kernel
theorem dX11_rivers_15 : decode cX11_rivers 15 = .ok (.iload_n 2, 1) := by decide +kernel
theorem dX11_rivers_16 : decode cX11_rivers 16 = .ok (.ifCond .lt 55, 3) := by decide +kernel
theorem dX11_rivers_19 : decode cX11_rivers 19 = .ok (.aload_n 0, 1) := by decide +kernel
theorem dX11_rivers_20 : decode cX11_rivers 20 = .ok (.iconst 0, 1) := by decide +kernel
theorem dX11_rivers_21 : decode cX11_rivers 21 = .ok (.iload_n 2, 1) := by decide +kernel
theorem dX11_rivers_22 : decode cX11_rivers 22 = .ok (.invokevirtual 225, 3) := by decide +kernel
theorem dX11_rivers_25 : decode cX11_rivers 25 = .ok (.ifCond .eq 9, 3) := by decide +kernel
theorem dX11_rivers_28 : decode cX11_rivers 28 = .ok (.iload_n 1, 1) := by decide +kernel
theorem dX11_rivers_29 : decode cX11_rivers 29 = .ok (.iconst 1, 1) := by decide +kernel
theorem dX11_rivers_30 : decode cX11_rivers 30 = .ok (.iadd, 1) := by decide +kernel
theorem dX11_rivers_31 : decode cX11_rivers 31 = .ok (.goto 4, 3) := by decide +kernel
theorem dX11_rivers_34 : decode cX11_rivers 34 = .ok (.iconst 0, 1) := by decide +kernel
theorem dX11_rivers_35 : decode cX11_rivers 35 = .ok (.istore_n 1, 1) := by decide +kernel
theorem dX11_rivers_36 : decode cX11_rivers 36 = .ok (.aload_n 0, 1) := by decide +kernel
theorem dX11_rivers_37 : decode cX11_rivers 37 = .ok (.getfield 99, 3) := by decide +kernel
theorem dX11_rivers_40 : decode cX11_rivers 40 = .ok (.iload_n 2, 1) := by decide +kernel
theorem dX11_rivers_41 : decode cX11_rivers 41 = .ok (.iload_n 1, 1) := by decide +kernel
theorem dX11_rivers_42 : decode cX11_rivers 42 = .ok (.aload_n 0, 1) := by decide +kernel
theorem dX11_rivers_43 : decode cX11_rivers 43 = .ok (.getfield 44, 3) := by decide +kernel
theorem dX11_rivers_46 : decode cX11_rivers 46 = .ok (.bipush 6, 2) := by decide +kernel
theorem dX11_rivers_48 : decode cX11_rivers 48 = .ok (.iaload, 1) := by decide +kernel
theorem dX11_rivers_49 : decode cX11_rivers 49 = .ok (.if_icmp .lt 7, 3) := by decide +kernel
theorem dX11_rivers_52 : decode cX11_rivers 52 = .ok (.iload_n 2, 1) := by decide +kernel
theorem dX11_rivers_53 : decode cX11_rivers 53 = .ok (.goto 11, 3) := by decide +kernel
theorem dX11_rivers_56 : decode cX11_rivers 56 = .ok (.aload_n 0, 1) := by decide +kernel
theorem dX11_rivers_57 : decode cX11_rivers 57 = .ok (.getfield 99, 3) := by decide +kernel
theorem dX11_rivers_60 : decode cX11_rivers 60 = .ok (.iload_n 2, 1) := by decide +kernel
theorem dX11_rivers_61 : decode cX11_rivers 61 = .ok (.iconst 1, 1) := by decide +kernel
theorem dX11_rivers_62 : decode cX11_rivers 62 = .ok (.iadd, 1) := by decide +kernel
theorem dX11_rivers_63 : decode cX11_rivers 63 = .ok (.iaload, 1) := by decide +kernel
theorem dX11_rivers_64 : decode cX11_rivers 64 = .ok (.iastore, 1) := by decide +kernel
theorem dX11_rivers_65 : decode cX11_rivers 65 = .ok (.iinc 2 (-1), 3) := by decide +kernel
theorem dX11_rivers_68 : decode cX11_rivers 68 = .ok (.goto (-53), 3) := by decide +kernel
theorem dX11_rivers_71 : decode cX11_rivers 71 = .ok (.return_, 1) := by decide +kernel
theorem dX11_raftFrom_0 : decode cX11_raftFrom 0 = .ok (.iload_n 1, 1) := by decide +kernel
theorem dX11_raftFrom_1 : decode cX11_raftFrom 1 = .ok (.sipush 3000, 3) := by decide +kernel
theorem dX11_raftFrom_4 : decode cX11_raftFrom 4 = .ok (.if_icmp .le 7, 3) := by decide +kernel
theorem dX11_raftFrom_7 : decode cX11_raftFrom 7 = .ok (.iconst (-1), 1) := by decide +kernel
theorem dX11_raftFrom_8 : decode cX11_raftFrom 8 = .ok (.goto 9, 3) := by decide +kernel
theorem dX11_raftFrom_11 : decode cX11_raftFrom 11 = .ok (.aload_n 0, 1) := by decide +kernel
theorem dX11_raftFrom_12 : decode cX11_raftFrom 12 = .ok (.getfield 99, 3) := by decide +kernel
theorem dX11_raftFrom_15 : decode cX11_raftFrom 15 = .ok (.iload_n 1, 1) := by decide +kernel
theorem dX11_raftFrom_16 : decode cX11_raftFrom 16 = .ok (.iaload, 1) := by decide +kernel
theorem dX11_raftFrom_17 : decode cX11_raftFrom 17 = .ok (.ireturn, 1) := by decide +kernel
theorem dX11_lays_0 : decode cX11_lays 0 = .ok (.aload_n 0, 1) := by decide +kernel
theorem dX11_lays_1 : decode cX11_lays 1 = .ok (.getfield 72, 3) := by decide +kernel
theorem dX11_lays_4 : decode cX11_lays 4 = .ok (.iload_n 1, 1) := by decide +kernel
theorem dX11_lays_5 : decode cX11_lays 5 = .ok (.iaload, 1) := by decide +kernel
theorem dX11_lays_6 : decode cX11_lays 6 = .ok (.istore_n 2, 1) := by decide +kernel
theorem dX11_lays_7 : decode cX11_lays 7 = .ok (.aload_n 0, 1) := by decide +kernel
theorem dX11_lays_8 : decode cX11_lays 8 = .ok (.getfield 75, 3) := by decide +kernel
theorem dX11_lays_11 : decode cX11_lays 11 = .ok (.iload_n 1, 1) := by decide +kernel
theorem dX11_lays_12 : decode cX11_lays 12 = .ok (.iaload, 1) := by decide +kernel
theorem dX11_lays_13 : decode cX11_lays 13 = .ok (.istore_n 3, 1) := by decide +kernel
theorem dX11_lays_14 : decode cX11_lays 14 = .ok (.aload_n 0, 1) := by decide +kernel
theorem dX11_lays_15 : decode cX11_lays 15 = .ok (.getfield 96, 3) := by decide +kernel
theorem dX11_lays_18 : decode cX11_lays 18 = .ok (.iload_n 3, 1) := by decide +kernel
theorem dX11_lays_19 : decode cX11_lays 19 = .ok (.iaload, 1) := by decide +kernel
theorem dX11_lays_20 : decode cX11_lays 20 = .ok (.istore 4, 2) := by decide +kernel
theorem dX11_lays_22 : decode cX11_lays 22 = .ok (.aload_n 0, 1) := by decide +kernel
theorem dX11_lays_23 : decode cX11_lays 23 = .ok (.getfield 78, 3) := by decide +kernel
theorem dX11_lays_26 : decode cX11_lays 26 = .ok (.iload_n 1, 1) := by decide +kernel
theorem dX11_lays_27 : decode cX11_lays 27 = .ok (.iload 4, 2) := by decide +kernel
theorem dX11_lays_29 : decode cX11_lays 29 = .ok (.iastore, 1) := by decide +kernel
theorem dX11_lays_30 : decode cX11_lays 30 = .ok (.aload_n 0, 1) := by decide +kernel
theorem dX11_lays_31 : decode cX11_lays 31 = .ok (.getfield 60, 3) := by decide +kernel
theorem dX11_lays_34 : decode cX11_lays 34 = .ok (.iload_n 2, 1) := by decide +kernel
theorem dX11_lays_35 : decode cX11_lays 35 = .ok (.iaload, 1) := by decide +kernel
theorem dX11_lays_36 : decode cX11_lays 36 = .ok (.ifCond .ne 37, 3) := by decide +kernel
theorem dX11_lays_39 : decode cX11_lays 39 = .ok (.iload 4, 2) := by decide +kernel
theorem dX11_lays_41 : decode cX11_lays 41 = .ok (.aload_n 0, 1) := by decide +kernel
theorem dX11_lays_42 : decode cX11_lays 42 = .ok (.getfield 54, 3) := by decide +kernel
theorem dX11_lays_45 : decode cX11_lays 45 = .ok (.iload_n 2, 1) := by decide +kernel
theorem dX11_lays_46 : decode cX11_lays 46 = .ok (.iaload, 1) := by decide +kernel
theorem dX11_lays_47 : decode cX11_lays 47 = .ok (.aload_n 0, 1) := by decide +kernel
theorem dX11_lays_48 : decode cX11_lays 48 = .ok (.getfield 44, 3) := by decide +kernel
theorem dX11_lays_51 : decode cX11_lays 51 = .ok (.iconst 4, 1) := by decide +kernel
theorem dX11_lays_52 : decode cX11_lays 52 = .ok (.iaload, 1) := by decide +kernel
theorem dX11_lays_53 : decode cX11_lays 53 = .ok (.imul, 1) := by decide +kernel
theorem dX11_lays_54 : decode cX11_lays 54 = .ok (.aload_n 0, 1) := by decide +kernel
theorem dX11_lays_55 : decode cX11_lays 55 = .ok (.getfield 9, 3) := by decide +kernel
theorem dX11_lays_58 : decode cX11_lays 58 = .ok (.iload_n 3, 1) := by decide +kernel
theorem dX11_lays_59 : decode cX11_lays 59 = .ok (.iaload, 1) := by decide +kernel
theorem dX11_lays_60 : decode cX11_lays 60 = .ok (.iadd, 1) := by decide +kernel
theorem dX11_lays_61 : decode cX11_lays 61 = .ok (.iconst 1, 1) := by decide +kernel
theorem dX11_lays_62 : decode cX11_lays 62 = .ok (.isub, 1) := by decide +kernel
theorem dX11_lays_63 : decode cX11_lays 63 = .ok (.aload_n 0, 1) := by decide +kernel
theorem dX11_lays_64 : decode cX11_lays 64 = .ok (.getfield 9, 3) := by decide +kernel
theorem dX11_lays_67 : decode cX11_lays 67 = .ok (.iload_n 3, 1) := by decide +kernel
theorem dX11_lays_68 : decode cX11_lays 68 = .ok (.iaload, 1) := by decide +kernel
theorem dX11_lays_69 : decode cX11_lays 69 = .ok (.idiv, 1) := by decide +kernel
theorem dX11_lays_70 : decode cX11_lays 70 = .ok (.iadd, 1) := by decide +kernel
theorem dX11_lays_71 : decode cX11_lays 71 = .ok (.istore 4, 2) := by decide +kernel
theorem dX11_lays_73 : decode cX11_lays 73 = .ok (.aload_n 0, 1) := by decide +kernel
theorem dX11_lays_74 : decode cX11_lays 74 = .ok (.getfield 60, 3) := by decide +kernel
theorem dX11_lays_77 : decode cX11_lays 77 = .ok (.iload_n 2, 1) := by decide +kernel
theorem dX11_lays_78 : decode cX11_lays 78 = .ok (.iaload, 1) := by decide +kernel
theorem dX11_lays_79 : decode cX11_lays 79 = .ok (.iconst 1, 1) := by decide +kernel
theorem dX11_lays_80 : decode cX11_lays 80 = .ok (.if_icmp .gt 14, 3) := by decide +kernel
theorem dX11_lays_83 : decode cX11_lays 83 = .ok (.iload 4, 2) := by decide +kernel
theorem dX11_lays_85 : decode cX11_lays 85 = .ok (.aload_n 0, 1) := by decide +kernel
theorem dX11_lays_86 : decode cX11_lays 86 = .ok (.getfield 44, 3) := by decide +kernel
theorem dX11_lays_89 : decode cX11_lays 89 = .ok (.iconst 5, 1) := by decide +kernel
theorem dX11_lays_90 : decode cX11_lays 90 = .ok (.iaload, 1) := by decide +kernel
theorem dX11_lays_91 : decode cX11_lays 91 = .ok (.iadd, 1) := by decide +kernel
theorem dX11_lays_92 : decode cX11_lays 92 = .ok (.istore 4, 2) := by decide +kernel
theorem dX11_lays_94 : decode cX11_lays 94 = .ok (.aload_n 0, 1) := by decide +kernel
theorem dX11_lays_95 : decode cX11_lays 95 = .ok (.getfield 60, 3) := by decide +kernel
theorem dX11_lays_98 : decode cX11_lays 98 = .ok (.iload_n 2, 1) := by decide +kernel
theorem dX11_lays_99 : decode cX11_lays 99 = .ok (.iaload, 1) := by decide +kernel
theorem dX11_lays_100 : decode cX11_lays 100 = .ok (.iconst 2, 1) := by decide +kernel
theorem dX11_lays_101 : decode cX11_lays 101 = .ok (.if_icmp .gt 31, 3) := by decide +kernel
theorem dX11_lays_104 : decode cX11_lays 104 = .ok (.aload_n 0, 1) := by decide +kernel
theorem dX11_lays_105 : decode cX11_lays 105 = .ok (.iload 4, 2) := by decide +kernel
theorem dX11_lays_107 : decode cX11_lays 107 = .ok (.invokevirtual 259, 3) := by decide +kernel
theorem dX11_lays_110 : decode cX11_lays 110 = .ok (.istore 4, 2) := by decide +kernel
theorem dX11_lays_112 : decode cX11_lays 112 = .ok (.iload 4, 2) := by decide +kernel
theorem dX11_lays_114 : decode cX11_lays 114 = .ok (.iconst (-1), 1) := by decide +kernel
theorem dX11_lays_115 : decode cX11_lays 115 = .ok (.if_icmp .ne 5, 3) := by decide +kernel
theorem dX11_lays_118 : decode cX11_lays 118 = .ok (.iconst 0, 1) := by decide +kernel
theorem dX11_lays_119 : decode cX11_lays 119 = .ok (.ireturn, 1) := by decide +kernel
theorem dX11_lays_120 : decode cX11_lays 120 = .ok (.iload 4, 2) := by decide +kernel
theorem dX11_lays_122 : decode cX11_lays 122 = .ok (.aload_n 0, 1) := by decide +kernel
theorem dX11_lays_123 : decode cX11_lays 123 = .ok (.getfield 44, 3) := by decide +kernel
theorem dX11_lays_126 : decode cX11_lays 126 = .ok (.bipush 6, 2) := by decide +kernel
theorem dX11_lays_128 : decode cX11_lays 128 = .ok (.iaload, 1) := by decide +kernel
theorem dX11_lays_129 : decode cX11_lays 129 = .ok (.iadd, 1) := by decide +kernel
theorem dX11_lays_130 : decode cX11_lays 130 = .ok (.istore 4, 2) := by decide +kernel
theorem dX11_lays_132 : decode cX11_lays 132 = .ok (.aload_n 0, 1) := by decide +kernel
theorem dX11_lays_133 : decode cX11_lays 133 = .ok (.getfield 60, 3) := by decide +kernel
theorem dX11_lays_136 : decode cX11_lays 136 = .ok (.iload_n 2, 1) := by decide +kernel
theorem dX11_lays_137 : decode cX11_lays 137 = .ok (.iaload, 1) := by decide +kernel
theorem dX11_lays_138 : decode cX11_lays 138 = .ok (.iconst 3, 1) := by decide +kernel
theorem dX11_lays_139 : decode cX11_lays 139 = .ok (.if_icmp .gt 16, 3) := by decide +kernel
theorem dX11_lays_142 : decode cX11_lays 142 = .ok (.iload 4, 2) := by decide +kernel
theorem dX11_lays_144 : decode cX11_lays 144 = .ok (.aload_n 0, 1) := by decide +kernel
theorem dX11_lays_145 : decode cX11_lays 145 = .ok (.getfield 57, 3) := by decide +kernel
theorem dX11_lays_148 : decode cX11_lays 148 = .ok (.iload_n 2, 1) := by decide +kernel
theorem dX11_lays_149 : decode cX11_lays 149 = .ok (.iaload, 1) := by decide +kernel
theorem dX11_lays_150 : decode cX11_lays 150 = .ok (.iconst 1, 1) := by decide +kernel
theorem dX11_lays_151 : decode cX11_lays 151 = .ok (.iadd, 1) := by decide +kernel
theorem dX11_lays_152 : decode cX11_lays 152 = .ok (.iadd, 1) := by decide +kernel
theorem dX11_lays_153 : decode cX11_lays 153 = .ok (.istore 4, 2) := by decide +kernel
theorem dX11_lays_155 : decode cX11_lays 155 = .ok (.iconst 0, 1) := by decide +kernel
theorem dX11_lays_156 : decode cX11_lays 156 = .ok (.istore 5, 2) := by decide +kernel
theorem dX11_lays_158 : decode cX11_lays 158 = .ok (.iload 5, 2) := by decide +kernel
theorem dX11_lays_160 : decode cX11_lays 160 = .ok (.iload_n 1, 1) := by decide +kernel
theorem dX11_lays_161 : decode cX11_lays 161 = .ok (.if_icmp .ge 60, 3) := by decide +kernel
theorem dX11_lays_164 : decode cX11_lays 164 = .ok (.aload_n 0, 1) := by decide +kernel
theorem dX11_lays_165 : decode cX11_lays 165 = .ok (.getfield 57, 3) := by decide +kernel
theorem dX11_lays_168 : decode cX11_lays 168 = .ok (.aload_n 0, 1) := by decide +kernel
theorem dX11_lays_169 : decode cX11_lays 169 = .ok (.getfield 72, 3) := by decide +kernel
theorem dX11_lays_172 : decode cX11_lays 172 = .ok (.iload 5, 2) := by decide +kernel
theorem dX11_lays_174 : decode cX11_lays 174 = .ok (.iaload, 1) := by decide +kernel
theorem dX11_lays_175 : decode cX11_lays 175 = .ok (.iaload, 1) := by decide +kernel
theorem dX11_lays_176 : decode cX11_lays 176 = .ok (.aload_n 0, 1) := by decide +kernel
theorem dX11_lays_177 : decode cX11_lays 177 = .ok (.getfield 57, 3) := by decide +kernel
theorem dX11_lays_180 : decode cX11_lays 180 = .ok (.iload_n 2, 1) := by decide +kernel
theorem dX11_lays_181 : decode cX11_lays 181 = .ok (.iaload, 1) := by decide +kernel
theorem dX11_lays_182 : decode cX11_lays 182 = .ok (.if_icmp .ge 29, 3) := by decide +kernel
theorem dX11_lays_185 : decode cX11_lays 185 = .ok (.aload_n 0, 1) := by decide +kernel
theorem dX11_lays_186 : decode cX11_lays 186 = .ok (.getfield 81, 3) := by decide +kernel
theorem dX11_lays_189 : decode cX11_lays 189 = .ok (.iload 5, 2) := by decide +kernel
theorem dX11_lays_191 : decode cX11_lays 191 = .ok (.iaload, 1) := by decide +kernel
theorem dX11_lays_192 : decode cX11_lays 192 = .ok (.iconst 1, 1) := by decide +kernel
theorem dX11_lays_193 : decode cX11_lays 193 = .ok (.iadd, 1) := by decide +kernel
theorem dX11_lays_194 : decode cX11_lays 194 = .ok (.iload 4, 2) := by decide +kernel
theorem dX11_lays_196 : decode cX11_lays 196 = .ok (.if_icmp .le 15, 3) := by decide +kernel
theorem dX11_lays_199 : decode cX11_lays 199 = .ok (.aload_n 0, 1) := by decide +kernel
theorem dX11_lays_200 : decode cX11_lays 200 = .ok (.getfield 81, 3) := by decide +kernel
theorem dX11_lays_203 : decode cX11_lays 203 = .ok (.iload 5, 2) := by decide +kernel
theorem dX11_lays_205 : decode cX11_lays 205 = .ok (.iaload, 1) := by decide +kernel
theorem dX11_lays_206 : decode cX11_lays 206 = .ok (.iconst 1, 1) := by decide +kernel
theorem dX11_lays_207 : decode cX11_lays 207 = .ok (.iadd, 1) := by decide +kernel
theorem dX11_lays_208 : decode cX11_lays 208 = .ok (.goto 5, 3) := by decide +kernel
theorem dX11_lays_211 : decode cX11_lays 211 = .ok (.iload 4, 2) := by decide +kernel
theorem dX11_lays_213 : decode cX11_lays 213 = .ok (.istore 4, 2) := by decide +kernel
theorem dX11_lays_215 : decode cX11_lays 215 = .ok (.iinc 5 1, 3) := by decide +kernel
theorem dX11_lays_218 : decode cX11_lays 218 = .ok (.goto (-60), 3) := by decide +kernel
theorem dX11_lays_221 : decode cX11_lays 221 = .ok (.iload_n 1, 1) := by decide +kernel
theorem dX11_lays_222 : decode cX11_lays 222 = .ok (.iconst 1, 1) := by decide +kernel
theorem dX11_lays_223 : decode cX11_lays 223 = .ok (.iadd, 1) := by decide +kernel
theorem dX11_lays_224 : decode cX11_lays 224 = .ok (.istore 5, 2) := by decide +kernel
theorem dX11_lays_226 : decode cX11_lays 226 = .ok (.iload 5, 2) := by decide +kernel
theorem dX11_lays_228 : decode cX11_lays 228 = .ok (.aload_n 0, 1) := by decide +kernel
theorem dX11_lays_229 : decode cX11_lays 229 = .ok (.getfield 262, 3) := by decide +kernel
theorem dX11_lays_232 : decode cX11_lays 232 = .ok (.if_icmp .ge 32, 3) := by decide +kernel
theorem dX11_lays_235 : decode cX11_lays 235 = .ok (.aload_n 0, 1) := by decide +kernel
theorem dX11_lays_236 : decode cX11_lays 236 = .ok (.getfield 57, 3) := by decide +kernel
theorem dX11_lays_239 : decode cX11_lays 239 = .ok (.aload_n 0, 1) := by decide +kernel
theorem dX11_lays_240 : decode cX11_lays 240 = .ok (.getfield 72, 3) := by decide +kernel
theorem dX11_lays_243 : decode cX11_lays 243 = .ok (.iload 5, 2) := by decide +kernel
theorem dX11_lays_245 : decode cX11_lays 245 = .ok (.iaload, 1) := by decide +kernel
theorem dX11_lays_246 : decode cX11_lays 246 = .ok (.iaload, 1) := by decide +kernel
theorem dX11_lays_247 : decode cX11_lays 247 = .ok (.aload_n 0, 1) := by decide +kernel
theorem dX11_lays_248 : decode cX11_lays 248 = .ok (.getfield 57, 3) := by decide +kernel
theorem dX11_lays_251 : decode cX11_lays 251 = .ok (.iload_n 2, 1) := by decide +kernel
theorem dX11_lays_252 : decode cX11_lays 252 = .ok (.iaload, 1) := by decide +kernel
theorem dX11_lays_253 : decode cX11_lays 253 = .ok (.if_icmp .ge 5, 3) := by decide +kernel
theorem dX11_lays_256 : decode cX11_lays 256 = .ok (.iconst 0, 1) := by decide +kernel
theorem dX11_lays_257 : decode cX11_lays 257 = .ok (.ireturn, 1) := by decide +kernel
theorem dX11_lays_258 : decode cX11_lays 258 = .ok (.iinc 5 1, 3) := by decide +kernel
theorem dX11_lays_261 : decode cX11_lays 261 = .ok (.goto (-35), 3) := by decide +kernel
theorem dX11_lays_264 : decode cX11_lays 264 = .ok (.aload_n 0, 1) := by decide +kernel
theorem dX11_lays_265 : decode cX11_lays 265 = .ok (.getfield 81, 3) := by decide +kernel
theorem dX11_lays_268 : decode cX11_lays 268 = .ok (.iload_n 1, 1) := by decide +kernel
theorem dX11_lays_269 : decode cX11_lays 269 = .ok (.iload 4, 2) := by decide +kernel
theorem dX11_lays_271 : decode cX11_lays 271 = .ok (.iastore, 1) := by decide +kernel
theorem dX11_lays_272 : decode cX11_lays 272 = .ok (.aload_n 0, 1) := by decide +kernel
theorem dX11_lays_273 : decode cX11_lays 273 = .ok (.getfield 96, 3) := by decide +kernel
theorem dX11_lays_276 : decode cX11_lays 276 = .ok (.iload_n 3, 1) := by decide +kernel
theorem dX11_lays_277 : decode cX11_lays 277 = .ok (.iload 4, 2) := by decide +kernel
theorem dX11_lays_279 : decode cX11_lays 279 = .ok (.iconst 1, 1) := by decide +kernel
theorem dX11_lays_280 : decode cX11_lays 280 = .ok (.iadd, 1) := by decide +kernel
theorem dX11_lays_281 : decode cX11_lays 281 = .ok (.iastore, 1) := by decide +kernel
theorem dX11_lays_282 : decode cX11_lays 282 = .ok (.iload 4, 2) := by decide +kernel
theorem dX11_lays_284 : decode cX11_lays 284 = .ok (.sipush 3000, 3) := by decide +kernel
theorem dX11_lays_287 : decode cX11_lays 287 = .ok (.if_icmp .gt 7, 3) := by decide +kernel
theorem dX11_lays_290 : decode cX11_lays 290 = .ok (.iconst 1, 1) := by decide +kernel
theorem dX11_lays_291 : decode cX11_lays 291 = .ok (.goto 4, 3) := by decide +kernel
theorem dX11_lays_294 : decode cX11_lays 294 = .ok (.iconst 0, 1) := by decide +kernel
theorem dX11_lays_295 : decode cX11_lays 295 = .ok (.ireturn, 1) := by decide +kernel
theorem dX11_goesOn_0 : decode cX11_goesOn 0 = .ok (.aload_n 0, 1) := by decide +kernel
theorem dX11_goesOn_1 : decode cX11_goesOn 1 = .ok (.getfield 262, 3) := by decide +kernel
theorem dX11_goesOn_4 : decode cX11_goesOn 4 = .ok (.iconst 1, 1) := by decide +kernel
theorem dX11_goesOn_5 : decode cX11_goesOn 5 = .ok (.isub, 1) := by decide +kernel
theorem dX11_goesOn_6 : decode cX11_goesOn 6 = .ok (.istore_n 3, 1) := by decide +kernel
theorem dX11_goesOn_7 : decode cX11_goesOn 7 = .ok (.iload_n 3, 1) := by decide +kernel
theorem dX11_goesOn_8 : decode cX11_goesOn 8 = .ok (.ifCond .lt 29, 3) := by decide +kernel
theorem dX11_goesOn_11 : decode cX11_goesOn 11 = .ok (.aload_n 1, 1) := by decide +kernel
theorem dX11_goesOn_12 : decode cX11_goesOn 12 = .ok (.iload_n 3, 1) := by decide +kernel
theorem dX11_goesOn_13 : decode cX11_goesOn 13 = .ok (.dup2, 1) := by decide +kernel
theorem dX11_goesOn_14 : decode cX11_goesOn 14 = .ok (.iaload, 1) := by decide +kernel
theorem dX11_goesOn_15 : decode cX11_goesOn 15 = .ok (.iconst 1, 1) := by decide +kernel
theorem dX11_goesOn_16 : decode cX11_goesOn 16 = .ok (.iadd, 1) := by decide +kernel
theorem dX11_goesOn_17 : decode cX11_goesOn 17 = .ok (.iastore, 1) := by decide +kernel
theorem dX11_goesOn_18 : decode cX11_goesOn 18 = .ok (.aload_n 1, 1) := by decide +kernel
theorem dX11_goesOn_19 : decode cX11_goesOn 19 = .ok (.iload_n 3, 1) := by decide +kernel
theorem dX11_goesOn_20 : decode cX11_goesOn 20 = .ok (.iaload, 1) := by decide +kernel
theorem dX11_goesOn_21 : decode cX11_goesOn 21 = .ok (.iload_n 2, 1) := by decide +kernel
theorem dX11_goesOn_22 : decode cX11_goesOn 22 = .ok (.if_icmp .ge 5, 3) := by decide +kernel
theorem dX11_goesOn_25 : decode cX11_goesOn 25 = .ok (.iconst 1, 1) := by decide +kernel
theorem dX11_goesOn_26 : decode cX11_goesOn 26 = .ok (.ireturn, 1) := by decide +kernel
theorem dX11_goesOn_27 : decode cX11_goesOn 27 = .ok (.aload_n 1, 1) := by decide +kernel
theorem dX11_goesOn_28 : decode cX11_goesOn 28 = .ok (.iload_n 3, 1) := by decide +kernel
theorem dX11_goesOn_29 : decode cX11_goesOn 29 = .ok (.iconst 0, 1) := by decide +kernel
theorem dX11_goesOn_30 : decode cX11_goesOn 30 = .ok (.iastore, 1) := by decide +kernel
theorem dX11_goesOn_31 : decode cX11_goesOn 31 = .ok (.iinc 3 (-1), 3) := by decide +kernel
theorem dX11_goesOn_34 : decode cX11_goesOn 34 = .ok (.goto (-27), 3) := by decide +kernel
theorem dX11_goesOn_37 : decode cX11_goesOn 37 = .ok (.iconst 0, 1) := by decide +kernel
theorem dX11_goesOn_38 : decode cX11_goesOn 38 = .ok (.ireturn, 1) := by decide +kernel
theorem dX11_plan_0 : decode cX11_plan 0 = .ok (.aload_n 0, 1) := by decide +kernel
theorem dX11_plan_1 : decode cX11_plan 1 = .ok (.iconst 0, 1) := by decide +kernel
theorem dX11_plan_2 : decode cX11_plan 2 = .ok (.putfield 262, 3) := by decide +kernel
theorem dX11_plan_5 : decode cX11_plan 5 = .ok (.iconst 0, 1) := by decide +kernel
theorem dX11_plan_6 : decode cX11_plan 6 = .ok (.istore_n 1, 1) := by decide +kernel
theorem dX11_plan_7 : decode cX11_plan 7 = .ok (.iload_n 1, 1) := by decide +kernel
theorem dX11_plan_8 : decode cX11_plan 8 = .ok (.aload_n 0, 1) := by decide +kernel
theorem dX11_plan_9 : decode cX11_plan 9 = .ok (.getfield 216, 3) := by decide +kernel
theorem dX11_plan_12 : decode cX11_plan 12 = .ok (.if_icmp .ge 58, 3) := by decide +kernel
theorem dX11_plan_15 : decode cX11_plan 15 = .ok (.aload_n 0, 1) := by decide +kernel
theorem dX11_plan_16 : decode cX11_plan 16 = .ok (.getfield 60, 3) := by decide +kernel
theorem dX11_plan_19 : decode cX11_plan 19 = .ok (.iload_n 1, 1) := by decide +kernel
theorem dX11_plan_20 : decode cX11_plan 20 = .ok (.iaload, 1) := by decide +kernel
theorem dX11_plan_21 : decode cX11_plan 21 = .ok (.iconst 5, 1) := by decide +kernel
theorem dX11_plan_22 : decode cX11_plan 22 = .ok (.if_icmp .ge 42, 3) := by decide +kernel
theorem dX11_plan_25 : decode cX11_plan 25 = .ok (.aload_n 0, 1) := by decide +kernel
theorem dX11_plan_26 : decode cX11_plan 26 = .ok (.getfield 262, 3) := by decide +kernel
theorem dX11_plan_29 : decode cX11_plan 29 = .ok (.iconst 5, 1) := by decide +kernel
theorem dX11_plan_30 : decode cX11_plan 30 = .ok (.if_icmp .eq 12, 3) := by decide +kernel
theorem dX11_plan_33 : decode cX11_plan 33 = .ok (.aload_n 0, 1) := by decide +kernel
theorem dX11_plan_34 : decode cX11_plan 34 = .ok (.iload_n 1, 1) := by decide +kernel
theorem dX11_plan_35 : decode cX11_plan 35 = .ok (.invokevirtual 222, 3) := by decide +kernel
theorem dX11_plan_38 : decode cX11_plan 38 = .ok (.iconst (-1), 1) := by decide +kernel
theorem dX11_plan_39 : decode cX11_plan 39 = .ok (.if_icmp .eq 5, 3) := by decide +kernel
theorem dX11_plan_42 : decode cX11_plan 42 = .ok (.iconst (-1), 1) := by decide +kernel
theorem dX11_plan_43 : decode cX11_plan 43 = .ok (.ireturn, 1) := by decide +kernel
theorem dX11_plan_44 : decode cX11_plan 44 = .ok (.aload_n 0, 1) := by decide +kernel
theorem dX11_plan_45 : decode cX11_plan 45 = .ok (.getfield 69, 3) := by decide +kernel
theorem dX11_plan_48 : decode cX11_plan 48 = .ok (.aload_n 0, 1) := by decide +kernel
theorem dX11_plan_49 : decode cX11_plan 49 = .ok (.getfield 262, 3) := by decide +kernel
theorem dX11_plan_52 : decode cX11_plan 52 = .ok (.iload_n 1, 1) := by decide +kernel
theorem dX11_plan_53 : decode cX11_plan 53 = .ok (.iastore, 1) := by decide +kernel
theorem dX11_plan_54 : decode cX11_plan 54 = .ok (.aload_n 0, 1) := by decide +kernel
theorem dX11_plan_55 : decode cX11_plan 55 = .ok (.dup, 1) := by decide +kernel
theorem dX11_plan_56 : decode cX11_plan 56 = .ok (.getfield 262, 3) := by decide +kernel
theorem dX11_plan_59 : decode cX11_plan 59 = .ok (.iconst 1, 1) := by decide +kernel
theorem dX11_plan_60 : decode cX11_plan 60 = .ok (.iadd, 1) := by decide +kernel
theorem dX11_plan_61 : decode cX11_plan 61 = .ok (.putfield 262, 3) := by decide +kernel
theorem dX11_plan_64 : decode cX11_plan 64 = .ok (.iinc 1 1, 3) := by decide +kernel
theorem dX11_plan_67 : decode cX11_plan 67 = .ok (.goto (-60), 3) := by decide +kernel
theorem dX11_plan_70 : decode cX11_plan 70 = .ok (.aload_n 0, 1) := by decide +kernel
theorem dX11_plan_71 : decode cX11_plan 71 = .ok (.getfield 262, 3) := by decide +kernel
theorem dX11_plan_74 : decode cX11_plan 74 = .ok (.ifCond .ne 15, 3) := by decide +kernel
theorem dX11_plan_77 : decode cX11_plan 77 = .ok (.aload_n 0, 1) := by decide +kernel
theorem dX11_plan_78 : decode cX11_plan 78 = .ok (.iconst 0, 1) := by decide +kernel
theorem dX11_plan_79 : decode cX11_plan 79 = .ok (.putfield 265, 3) := by decide +kernel
theorem dX11_plan_82 : decode cX11_plan 82 = .ok (.aload_n 0, 1) := by decide +kernel
theorem dX11_plan_83 : decode cX11_plan 83 = .ok (.getfield 133, 3) := by decide +kernel
theorem dX11_plan_86 : decode cX11_plan 86 = .ok (.iconst 1, 1) := by decide +kernel
theorem dX11_plan_87 : decode cX11_plan 87 = .ok (.isub, 1) := by decide +kernel
theorem dX11_plan_88 : decode cX11_plan 88 = .ok (.ireturn, 1) := by decide +kernel
theorem dX11_plan_89 : decode cX11_plan 89 = .ok (.aload_n 0, 1) := by decide +kernel
theorem dX11_plan_90 : decode cX11_plan 90 = .ok (.invokevirtual 268, 3) := by decide +kernel
theorem dX11_plan_93 : decode cX11_plan 93 = .ok (.iconst (-1), 1) := by decide +kernel
theorem dX11_plan_94 : decode cX11_plan 94 = .ok (.istore_n 1, 1) := by decide +kernel
theorem dX11_plan_95 : decode cX11_plan 95 = .ok (.iconst 5, 1) := by decide +kernel
theorem dX11_plan_96 : decode cX11_plan 96 = .ok (.newarray .int, 2) := by decide +kernel
theorem dX11_plan_98 : decode cX11_plan 98 = .ok (.astore_n 2, 1) := by decide +kernel
theorem dX11_plan_99 : decode cX11_plan 99 = .ok (.aload_n 0, 1) := by decide +kernel
theorem dX11_plan_100 : decode cX11_plan 100 = .ok (.getfield 136, 3) := by decide +kernel
theorem dX11_plan_103 : decode cX11_plan 103 = .ok (.ifCond .le 7, 3) := by decide +kernel
theorem dX11_plan_106 : decode cX11_plan 106 = .ok (.iconst 1, 1) := by decide +kernel
theorem dX11_plan_107 : decode cX11_plan 107 = .ok (.goto 4, 3) := by decide +kernel
theorem dX11_plan_110 : decode cX11_plan 110 = .ok (.iconst 0, 1) := by decide +kernel
theorem dX11_plan_111 : decode cX11_plan 111 = .ok (.istore_n 3, 1) := by decide +kernel
theorem dX11_plan_112 : decode cX11_plan 112 = .ok (.iload_n 3, 1) := by decide +kernel
theorem dX11_plan_113 : decode cX11_plan 113 = .ok (.ifCond .eq 107, 3) := by decide +kernel
theorem dX11_plan_116 : decode cX11_plan 116 = .ok (.iconst 1, 1) := by decide +kernel
theorem dX11_plan_117 : decode cX11_plan 117 = .ok (.istore 4, 2) := by decide +kernel
theorem dX11_plan_119 : decode cX11_plan 119 = .ok (.iconst 0, 1) := by decide +kernel
theorem dX11_plan_120 : decode cX11_plan 120 = .ok (.istore 5, 2) := by decide +kernel
theorem dX11_plan_122 : decode cX11_plan 122 = .ok (.iload 5, 2) := by decide +kernel
theorem dX11_plan_124 : decode cX11_plan 124 = .ok (.aload_n 0, 1) := by decide +kernel
theorem dX11_plan_125 : decode cX11_plan 125 = .ok (.getfield 262, 3) := by decide +kernel
theorem dX11_plan_128 : decode cX11_plan 128 = .ok (.if_icmp .ge 64, 3) := by decide +kernel
theorem dX11_plan_131 : decode cX11_plan 131 = .ok (.aload_n 0, 1) := by decide +kernel
theorem dX11_plan_132 : decode cX11_plan 132 = .ok (.getfield 72, 3) := by decide +kernel
theorem dX11_plan_135 : decode cX11_plan 135 = .ok (.iload 5, 2) := by decide +kernel
theorem dX11_plan_137 : decode cX11_plan 137 = .ok (.aload_n 0, 1) := by decide +kernel
theorem dX11_plan_138 : decode cX11_plan 138 = .ok (.getfield 69, 3) := by decide +kernel
theorem dX11_plan_141 : decode cX11_plan 141 = .ok (.aload_n 2, 1) := by decide +kernel
theorem dX11_plan_142 : decode cX11_plan 142 = .ok (.iload 5, 2) := by decide +kernel
theorem dX11_plan_144 : decode cX11_plan 144 = .ok (.iaload, 1) := by decide +kernel
theorem dX11_plan_145 : decode cX11_plan 145 = .ok (.iaload, 1) := by decide +kernel
theorem dX11_plan_146 : decode cX11_plan 146 = .ok (.iastore, 1) := by decide +kernel
theorem dX11_plan_147 : decode cX11_plan 147 = .ok (.iconst 0, 1) := by decide +kernel
theorem dX11_plan_148 : decode cX11_plan 148 = .ok (.istore 6, 2) := by decide +kernel
theorem dX11_plan_150 : decode cX11_plan 150 = .ok (.iload 6, 2) := by decide +kernel
theorem dX11_plan_152 : decode cX11_plan 152 = .ok (.iload 5, 2) := by decide +kernel
theorem dX11_plan_154 : decode cX11_plan 154 = .ok (.if_icmp .ge 32, 3) := by decide +kernel
theorem dX11_plan_157 : decode cX11_plan 157 = .ok (.iload 4, 2) := by decide +kernel
theorem dX11_plan_159 : decode cX11_plan 159 = .ok (.ifCond .eq 18, 3) := by decide +kernel
theorem dX11_plan_162 : decode cX11_plan 162 = .ok (.aload_n 2, 1) := by decide +kernel
theorem dX11_plan_163 : decode cX11_plan 163 = .ok (.iload 6, 2) := by decide +kernel
theorem dX11_plan_165 : decode cX11_plan 165 = .ok (.iaload, 1) := by decide +kernel
theorem dX11_plan_166 : decode cX11_plan 166 = .ok (.aload_n 2, 1) := by decide +kernel
theorem dX11_plan_167 : decode cX11_plan 167 = .ok (.iload 5, 2) := by decide +kernel
theorem dX11_plan_169 : decode cX11_plan 169 = .ok (.iaload, 1) := by decide +kernel
theorem dX11_plan_170 : decode cX11_plan 170 = .ok (.if_icmp .eq 7, 3) := by decide +kernel
theorem dX11_plan_173 : decode cX11_plan 173 = .ok (.iconst 1, 1) := by decide +kernel
theorem dX11_plan_174 : decode cX11_plan 174 = .ok (.goto 4, 3) := by decide +kernel
theorem dX11_plan_177 : decode cX11_plan 177 = .ok (.iconst 0, 1) := by decide +kernel
theorem dX11_plan_178 : decode cX11_plan 178 = .ok (.istore 4, 2) := by decide +kernel
theorem dX11_plan_180 : decode cX11_plan 180 = .ok (.iinc 6 1, 3) := by decide +kernel
theorem dX11_plan_183 : decode cX11_plan 183 = .ok (.goto (-33), 3) := by decide +kernel
theorem dX11_plan_186 : decode cX11_plan 186 = .ok (.iinc 5 1, 3) := by decide +kernel
theorem dX11_plan_189 : decode cX11_plan 189 = .ok (.goto (-67), 3) := by decide +kernel
theorem dX11_plan_192 : decode cX11_plan 192 = .ok (.iload 4, 2) := by decide +kernel
theorem dX11_plan_194 : decode cX11_plan 194 = .ok (.ifCond .eq 11, 3) := by decide +kernel
theorem dX11_plan_197 : decode cX11_plan 197 = .ok (.aload_n 0, 1) := by decide +kernel
theorem dX11_plan_198 : decode cX11_plan 198 = .ok (.iload_n 1, 1) := by decide +kernel
theorem dX11_plan_199 : decode cX11_plan 199 = .ok (.invokevirtual 271, 3) := by decide +kernel
theorem dX11_plan_202 : decode cX11_plan 202 = .ok (.goto 4, 3) := by decide +kernel
theorem dX11_plan_205 : decode cX11_plan 205 = .ok (.iload_n 1, 1) := by decide +kernel
theorem dX11_plan_206 : decode cX11_plan 206 = .ok (.istore_n 1, 1) := by decide +kernel
theorem dX11_plan_207 : decode cX11_plan 207 = .ok (.aload_n 0, 1) := by decide +kernel
theorem dX11_plan_208 : decode cX11_plan 208 = .ok (.aload_n 2, 1) := by decide +kernel
theorem dX11_plan_209 : decode cX11_plan 209 = .ok (.aload_n 0, 1) := by decide +kernel
theorem dX11_plan_210 : decode cX11_plan 210 = .ok (.getfield 262, 3) := by decide +kernel
theorem dX11_plan_213 : decode cX11_plan 213 = .ok (.invokevirtual 273, 3) := by decide +kernel
theorem dX11_plan_216 : decode cX11_plan 216 = .ok (.istore_n 3, 1) := by decide +kernel
theorem dX11_plan_217 : decode cX11_plan 217 = .ok (.goto (-105), 3) := by decide +kernel
theorem dX11_plan_220 : decode cX11_plan 220 = .ok (.iload_n 1, 1) := by decide +kernel
theorem dX11_plan_221 : decode cX11_plan 221 = .ok (.iconst (-1), 1) := by decide +kernel
theorem dX11_plan_222 : decode cX11_plan 222 = .ok (.if_icmp .eq 11, 3) := by decide +kernel
theorem dX11_plan_225 : decode cX11_plan 225 = .ok (.aload_n 0, 1) := by decide +kernel
theorem dX11_plan_226 : decode cX11_plan 226 = .ok (.aload_n 0, 1) := by decide +kernel
theorem dX11_plan_227 : decode cX11_plan 227 = .ok (.getfield 262, 3) := by decide +kernel
theorem dX11_plan_230 : decode cX11_plan 230 = .ok (.putfield 265, 3) := by decide +kernel
theorem dX11_plan_233 : decode cX11_plan 233 = .ok (.iload_n 1, 1) := by decide +kernel
theorem dX11_plan_234 : decode cX11_plan 234 = .ok (.ireturn, 1) := by decide +kernel
theorem dX11_gangs__0 : decode cX11_gangs_ 0 = .ok (.iload_n 1, 1) := by decide +kernel
theorem dX11_gangs__1 : decode cX11_gangs_ 1 = .ok (.istore_n 2, 1) := by decide +kernel
theorem dX11_gangs__2 : decode cX11_gangs_ 2 = .ok (.iconst 0, 1) := by decide +kernel
theorem dX11_gangs__3 : decode cX11_gangs_ 3 = .ok (.istore_n 3, 1) := by decide +kernel
theorem dX11_gangs__4 : decode cX11_gangs_ 4 = .ok (.iload_n 3, 1) := by decide +kernel
theorem dX11_gangs__5 : decode cX11_gangs_ 5 = .ok (.iconst 5, 1) := by decide +kernel
theorem dX11_gangs__6 : decode cX11_gangs_ 6 = .ok (.if_icmp .ge 16, 3) := by decide +kernel
theorem dX11_gangs__9 : decode cX11_gangs_ 9 = .ok (.aload_n 0, 1) := by decide +kernel
theorem dX11_gangs__10 : decode cX11_gangs_ 10 = .ok (.getfield 75, 3) := by decide +kernel
theorem dX11_gangs__13 : decode cX11_gangs_ 13 = .ok (.iload_n 3, 1) := by decide +kernel
theorem dX11_gangs__14 : decode cX11_gangs_ 14 = .ok (.iconst 0, 1) := by decide +kernel
theorem dX11_gangs__15 : decode cX11_gangs_ 15 = .ok (.iastore, 1) := by decide +kernel
theorem dX11_gangs__16 : decode cX11_gangs_ 16 = .ok (.iinc 3 1, 3) := by decide +kernel
theorem dX11_gangs__19 : decode cX11_gangs_ 19 = .ok (.goto (-15), 3) := by decide +kernel
theorem dX11_gangs__22 : decode cX11_gangs_ 22 = .ok (.iconst 1, 1) := by decide +kernel
theorem dX11_gangs__23 : decode cX11_gangs_ 23 = .ok (.istore_n 3, 1) := by decide +kernel
theorem dX11_gangs__24 : decode cX11_gangs_ 24 = .ok (.iload_n 3, 1) := by decide +kernel
theorem dX11_gangs__25 : decode cX11_gangs_ 25 = .ok (.ifCond .eq 247, 3) := by decide +kernel
theorem dX11_gangs__28 : decode cX11_gangs_ 28 = .ok (.iconst 1, 1) := by decide +kernel
theorem dX11_gangs__29 : decode cX11_gangs_ 29 = .ok (.istore 4, 2) := by decide +kernel
theorem dX11_gangs__31 : decode cX11_gangs_ 31 = .ok (.iconst 0, 1) := by decide +kernel
theorem dX11_gangs__32 : decode cX11_gangs_ 32 = .ok (.istore 5, 2) := by decide +kernel
theorem dX11_gangs__34 : decode cX11_gangs_ 34 = .ok (.iload 5, 2) := by decide +kernel
theorem dX11_gangs__36 : decode cX11_gangs_ 36 = .ok (.aload_n 0, 1) := by decide +kernel
theorem dX11_gangs__37 : decode cX11_gangs_ 37 = .ok (.getfield 262, 3) := by decide +kernel
theorem dX11_gangs__40 : decode cX11_gangs_ 40 = .ok (.if_icmp .ge 34, 3) := by decide +kernel
theorem dX11_gangs__43 : decode cX11_gangs_ 43 = .ok (.iload 4, 2) := by decide +kernel
theorem dX11_gangs__45 : decode cX11_gangs_ 45 = .ok (.ifCond .eq 29, 3) := by decide +kernel
theorem dX11_gangs__48 : decode cX11_gangs_ 48 = .ok (.aload_n 0, 1) := by decide +kernel
theorem dX11_gangs__49 : decode cX11_gangs_ 49 = .ok (.aload_n 0, 1) := by decide +kernel
theorem dX11_gangs__50 : decode cX11_gangs_ 50 = .ok (.getfield 75, 3) := by decide +kernel
theorem dX11_gangs__53 : decode cX11_gangs_ 53 = .ok (.iload 5, 2) := by decide +kernel
theorem dX11_gangs__55 : decode cX11_gangs_ 55 = .ok (.iaload, 1) := by decide +kernel
theorem dX11_gangs__56 : decode cX11_gangs_ 56 = .ok (.aload_n 0, 1) := by decide +kernel
theorem dX11_gangs__57 : decode cX11_gangs_ 57 = .ok (.getfield 72, 3) := by decide +kernel
theorem dX11_gangs__60 : decode cX11_gangs_ 60 = .ok (.iload 5, 2) := by decide +kernel
theorem dX11_gangs__62 : decode cX11_gangs_ 62 = .ok (.iaload, 1) := by decide +kernel
theorem dX11_gangs__63 : decode cX11_gangs_ 63 = .ok (.invokevirtual 277, 3) := by decide +kernel
theorem dX11_gangs__66 : decode cX11_gangs_ 66 = .ok (.istore 4, 2) := by decide +kernel
theorem dX11_gangs__68 : decode cX11_gangs_ 68 = .ok (.iinc 5 1, 3) := by decide +kernel
theorem dX11_gangs__71 : decode cX11_gangs_ 71 = .ok (.goto (-37), 3) := by decide +kernel
theorem dX11_gangs__74 : decode cX11_gangs_ 74 = .ok (.iconst 0, 1) := by decide +kernel
theorem dX11_gangs__75 : decode cX11_gangs_ 75 = .ok (.istore 5, 2) := by decide +kernel
theorem dX11_gangs__77 : decode cX11_gangs_ 77 = .ok (.iload 5, 2) := by decide +kernel
theorem dX11_gangs__79 : decode cX11_gangs_ 79 = .ok (.aload_n 0, 1) := by decide +kernel
theorem dX11_gangs__80 : decode cX11_gangs_ 80 = .ok (.getfield 136, 3) := by decide +kernel
theorem dX11_gangs__83 : decode cX11_gangs_ 83 = .ok (.if_icmp .ge 20, 3) := by decide +kernel
theorem dX11_gangs__86 : decode cX11_gangs_ 86 = .ok (.aload_n 0, 1) := by decide +kernel
theorem dX11_gangs__87 : decode cX11_gangs_ 87 = .ok (.getfield 96, 3) := by decide +kernel
theorem dX11_gangs__90 : decode cX11_gangs_ 90 = .ok (.iload 5, 2) := by decide +kernel
theorem dX11_gangs__92 : decode cX11_gangs_ 92 = .ok (.aload_n 0, 1) := by decide +kernel
theorem dX11_gangs__93 : decode cX11_gangs_ 93 = .ok (.getfield 133, 3) := by decide +kernel
theorem dX11_gangs__96 : decode cX11_gangs_ 96 = .ok (.iastore, 1) := by decide +kernel
theorem dX11_gangs__97 : decode cX11_gangs_ 97 = .ok (.iinc 5 1, 3) := by decide +kernel
theorem dX11_gangs__100 : decode cX11_gangs_ 100 = .ok (.goto (-23), 3) := by decide +kernel
theorem dX11_gangs__103 : decode cX11_gangs_ 103 = .ok (.iconst 0, 1) := by decide +kernel
theorem dX11_gangs__104 : decode cX11_gangs_ 104 = .ok (.istore 5, 2) := by decide +kernel
theorem dX11_gangs__106 : decode cX11_gangs_ 106 = .ok (.iconst 0, 1) := by decide +kernel
theorem dX11_gangs__107 : decode cX11_gangs_ 107 = .ok (.istore 6, 2) := by decide +kernel
theorem dX11_gangs__109 : decode cX11_gangs_ 109 = .ok (.iload 6, 2) := by decide +kernel
theorem dX11_gangs__111 : decode cX11_gangs_ 111 = .ok (.aload_n 0, 1) := by decide +kernel
theorem dX11_gangs__112 : decode cX11_gangs_ 112 = .ok (.getfield 262, 3) := by decide +kernel
theorem dX11_gangs__115 : decode cX11_gangs_ 115 = .ok (.if_icmp .ge 48, 3) := by decide +kernel
theorem dX11_gangs__118 : decode cX11_gangs_ 118 = .ok (.iload 4, 2) := by decide +kernel
theorem dX11_gangs__120 : decode cX11_gangs_ 120 = .ok (.ifCond .eq 43, 3) := by decide +kernel
theorem dX11_gangs__123 : decode cX11_gangs_ 123 = .ok (.aload_n 0, 1) := by decide +kernel
theorem dX11_gangs__124 : decode cX11_gangs_ 124 = .ok (.iload 6, 2) := by decide +kernel
theorem dX11_gangs__126 : decode cX11_gangs_ 126 = .ok (.invokevirtual 280, 3) := by decide +kernel
theorem dX11_gangs__129 : decode cX11_gangs_ 129 = .ok (.istore 4, 2) := by decide +kernel
theorem dX11_gangs__131 : decode cX11_gangs_ 131 = .ok (.aload_n 0, 1) := by decide +kernel
theorem dX11_gangs__132 : decode cX11_gangs_ 132 = .ok (.getfield 81, 3) := by decide +kernel
theorem dX11_gangs__135 : decode cX11_gangs_ 135 = .ok (.iload 6, 2) := by decide +kernel
theorem dX11_gangs__137 : decode cX11_gangs_ 137 = .ok (.iaload, 1) := by decide +kernel
theorem dX11_gangs__138 : decode cX11_gangs_ 138 = .ok (.iload 5, 2) := by decide +kernel
theorem dX11_gangs__140 : decode cX11_gangs_ 140 = .ok (.if_icmp .le 13, 3) := by decide +kernel
theorem dX11_gangs__143 : decode cX11_gangs_ 143 = .ok (.aload_n 0, 1) := by decide +kernel
theorem dX11_gangs__144 : decode cX11_gangs_ 144 = .ok (.getfield 81, 3) := by decide +kernel
theorem dX11_gangs__147 : decode cX11_gangs_ 147 = .ok (.iload 6, 2) := by decide +kernel
theorem dX11_gangs__149 : decode cX11_gangs_ 149 = .ok (.iaload, 1) := by decide +kernel
theorem dX11_gangs__150 : decode cX11_gangs_ 150 = .ok (.goto 5, 3) := by decide +kernel
theorem dX11_gangs__153 : decode cX11_gangs_ 153 = .ok (.iload 5, 2) := by decide +kernel
theorem dX11_gangs__155 : decode cX11_gangs_ 155 = .ok (.istore 5, 2) := by decide +kernel
theorem dX11_gangs__157 : decode cX11_gangs_ 157 = .ok (.iinc 6 1, 3) := by decide +kernel
theorem dX11_gangs__160 : decode cX11_gangs_ 160 = .ok (.goto (-51), 3) := by decide +kernel
theorem dX11_gangs__163 : decode cX11_gangs_ 163 = .ok (.iload 4, 2) := by decide +kernel
theorem dX11_gangs__165 : decode cX11_gangs_ 165 = .ok (.ifCond .eq 91, 3) := by decide +kernel
theorem dX11_gangs__168 : decode cX11_gangs_ 168 = .ok (.iload_n 2, 1) := by decide +kernel
theorem dX11_gangs__169 : decode cX11_gangs_ 169 = .ok (.iconst (-1), 1) := by decide +kernel
theorem dX11_gangs__170 : decode cX11_gangs_ 170 = .ok (.if_icmp .eq 9, 3) := by decide +kernel
theorem dX11_gangs__173 : decode cX11_gangs_ 173 = .ok (.iload 5, 2) := by decide +kernel
theorem dX11_gangs__175 : decode cX11_gangs_ 175 = .ok (.iload_n 2, 1) := by decide +kernel
theorem dX11_gangs__176 : decode cX11_gangs_ 176 = .ok (.if_icmp .ge 80, 3) := by decide +kernel
theorem dX11_gangs__179 : decode cX11_gangs_ 179 = .ok (.iload 5, 2) := by decide +kernel
theorem dX11_gangs__181 : decode cX11_gangs_ 181 = .ok (.istore_n 2, 1) := by decide +kernel
theorem dX11_gangs__182 : decode cX11_gangs_ 182 = .ok (.iconst 0, 1) := by decide +kernel
theorem dX11_gangs__183 : decode cX11_gangs_ 183 = .ok (.istore 6, 2) := by decide +kernel
theorem dX11_gangs__185 : decode cX11_gangs_ 185 = .ok (.iload 6, 2) := by decide +kernel
theorem dX11_gangs__187 : decode cX11_gangs_ 187 = .ok (.aload_n 0, 1) := by decide +kernel
theorem dX11_gangs__188 : decode cX11_gangs_ 188 = .ok (.getfield 262, 3) := by decide +kernel
theorem dX11_gangs__191 : decode cX11_gangs_ 191 = .ok (.if_icmp .ge 65, 3) := by decide +kernel
theorem dX11_gangs__194 : decode cX11_gangs_ 194 = .ok (.aload_n 0, 1) := by decide +kernel
theorem dX11_gangs__195 : decode cX11_gangs_ 195 = .ok (.getfield 84, 3) := by decide +kernel
theorem dX11_gangs__198 : decode cX11_gangs_ 198 = .ok (.iload 6, 2) := by decide +kernel
theorem dX11_gangs__200 : decode cX11_gangs_ 200 = .ok (.aload_n 0, 1) := by decide +kernel
theorem dX11_gangs__201 : decode cX11_gangs_ 201 = .ok (.getfield 72, 3) := by decide +kernel
theorem dX11_gangs__204 : decode cX11_gangs_ 204 = .ok (.iload 6, 2) := by decide +kernel
theorem dX11_gangs__206 : decode cX11_gangs_ 206 = .ok (.iaload, 1) := by decide +kernel
theorem dX11_gangs__207 : decode cX11_gangs_ 207 = .ok (.iastore, 1) := by decide +kernel
theorem dX11_gangs__208 : decode cX11_gangs_ 208 = .ok (.aload_n 0, 1) := by decide +kernel
theorem dX11_gangs__209 : decode cX11_gangs_ 209 = .ok (.getfield 87, 3) := by decide +kernel
theorem dX11_gangs__212 : decode cX11_gangs_ 212 = .ok (.iload 6, 2) := by decide +kernel
theorem dX11_gangs__214 : decode cX11_gangs_ 214 = .ok (.aload_n 0, 1) := by decide +kernel
theorem dX11_gangs__215 : decode cX11_gangs_ 215 = .ok (.getfield 75, 3) := by decide +kernel
theorem dX11_gangs__218 : decode cX11_gangs_ 218 = .ok (.iload 6, 2) := by decide +kernel
theorem dX11_gangs__220 : decode cX11_gangs_ 220 = .ok (.iaload, 1) := by decide +kernel
theorem dX11_gangs__221 : decode cX11_gangs_ 221 = .ok (.iastore, 1) := by decide +kernel
theorem dX11_gangs__222 : decode cX11_gangs_ 222 = .ok (.aload_n 0, 1) := by decide +kernel
theorem dX11_gangs__223 : decode cX11_gangs_ 223 = .ok (.getfield 90, 3) := by decide +kernel
theorem dX11_gangs__226 : decode cX11_gangs_ 226 = .ok (.iload 6, 2) := by decide +kernel
theorem dX11_gangs__228 : decode cX11_gangs_ 228 = .ok (.aload_n 0, 1) := by decide +kernel
theorem dX11_gangs__229 : decode cX11_gangs_ 229 = .ok (.getfield 78, 3) := by decide +kernel
theorem dX11_gangs__232 : decode cX11_gangs_ 232 = .ok (.iload 6, 2) := by decide +kernel
theorem dX11_gangs__234 : decode cX11_gangs_ 234 = .ok (.iaload, 1) := by decide +kernel
theorem dX11_gangs__235 : decode cX11_gangs_ 235 = .ok (.iastore, 1) := by decide +kernel
theorem dX11_gangs__236 : decode cX11_gangs_ 236 = .ok (.aload_n 0, 1) := by decide +kernel
theorem dX11_gangs__237 : decode cX11_gangs_ 237 = .ok (.getfield 93, 3) := by decide +kernel
theorem dX11_gangs__240 : decode cX11_gangs_ 240 = .ok (.iload 6, 2) := by decide +kernel
theorem dX11_gangs__242 : decode cX11_gangs_ 242 = .ok (.aload_n 0, 1) := by decide +kernel
theorem dX11_gangs__243 : decode cX11_gangs_ 243 = .ok (.getfield 81, 3) := by decide +kernel
theorem dX11_gangs__246 : decode cX11_gangs_ 246 = .ok (.iload 6, 2) := by decide +kernel
theorem dX11_gangs__248 : decode cX11_gangs_ 248 = .ok (.iaload, 1) := by decide +kernel
theorem dX11_gangs__249 : decode cX11_gangs_ 249 = .ok (.iastore, 1) := by decide +kernel
theorem dX11_gangs__250 : decode cX11_gangs_ 250 = .ok (.iinc 6 1, 3) := by decide +kernel
theorem dX11_gangs__253 : decode cX11_gangs_ 253 = .ok (.goto (-68), 3) := by decide +kernel
theorem dX11_gangs__256 : decode cX11_gangs_ 256 = .ok (.aload_n 0, 1) := by decide +kernel
theorem dX11_gangs__257 : decode cX11_gangs_ 257 = .ok (.aload_n 0, 1) := by decide +kernel
theorem dX11_gangs__258 : decode cX11_gangs_ 258 = .ok (.getfield 75, 3) := by decide +kernel
theorem dX11_gangs__261 : decode cX11_gangs_ 261 = .ok (.aload_n 0, 1) := by decide +kernel
theorem dX11_gangs__262 : decode cX11_gangs_ 262 = .ok (.getfield 136, 3) := by decide +kernel
theorem dX11_gangs__265 : decode cX11_gangs_ 265 = .ok (.invokevirtual 273, 3) := by decide +kernel
theorem dX11_gangs__268 : decode cX11_gangs_ 268 = .ok (.istore_n 3, 1) := by decide +kernel
theorem dX11_gangs__269 : decode cX11_gangs_ 269 = .ok (.goto (-245), 3) := by decide +kernel
theorem dX11_gangs__272 : decode cX11_gangs_ 272 = .ok (.iload_n 2, 1) := by decide +kernel
theorem dX11_gangs__273 : decode cX11_gangs_ 273 = .ok (.ireturn, 1) := by decide +kernel
theorem dX11_planned_0 : decode cX11_planned 0 = .ok (.iload_n 1, 1) := by decide +kernel
theorem dX11_planned_1 : decode cX11_planned 1 = .ok (.iconst 0, 1) := by decide +kernel
theorem dX11_planned_2 : decode cX11_planned 2 = .ok (.aload_n 0, 1) := by decide +kernel
theorem dX11_planned_3 : decode cX11_planned 3 = .ok (.getfield 265, 3) := by decide +kernel
theorem dX11_planned_6 : decode cX11_planned 6 = .ok (.iconst 1, 1) := by decide +kernel
theorem dX11_planned_7 : decode cX11_planned 7 = .ok (.isub, 1) := by decide +kernel
theorem dX11_planned_8 : decode cX11_planned 8 = .ok (.invokestatic 139, 3) := by decide +kernel
theorem dX11_planned_11 : decode cX11_planned 11 = .ok (.ifCond .ne 5, 3) := by decide +kernel
theorem dX11_planned_14 : decode cX11_planned 14 = .ok (.iconst (-1), 1) := by decide +kernel
theorem dX11_planned_15 : decode cX11_planned 15 = .ok (.ireturn, 1) := by decide +kernel
theorem dX11_planned_16 : decode cX11_planned 16 = .ok (.iload_n 2, 1) := by decide +kernel
theorem dX11_planned_17 : decode cX11_planned 17 = .ok (.tableswitch 59 0 3 #[31, 38, 45, 52], 31) := by decide +kernel
theorem dX11_planned_48 : decode cX11_planned 48 = .ok (.aload_n 0, 1) := by decide +kernel
theorem dX11_planned_49 : decode cX11_planned 49 = .ok (.getfield 84, 3) := by decide +kernel
theorem dX11_planned_52 : decode cX11_planned 52 = .ok (.iload_n 1, 1) := by decide +kernel
theorem dX11_planned_53 : decode cX11_planned 53 = .ok (.iaload, 1) := by decide +kernel
theorem dX11_planned_54 : decode cX11_planned 54 = .ok (.ireturn, 1) := by decide +kernel
theorem dX11_planned_55 : decode cX11_planned 55 = .ok (.aload_n 0, 1) := by decide +kernel
theorem dX11_planned_56 : decode cX11_planned 56 = .ok (.getfield 87, 3) := by decide +kernel
theorem dX11_planned_59 : decode cX11_planned 59 = .ok (.iload_n 1, 1) := by decide +kernel
theorem dX11_planned_60 : decode cX11_planned 60 = .ok (.iaload, 1) := by decide +kernel
theorem dX11_planned_61 : decode cX11_planned 61 = .ok (.ireturn, 1) := by decide +kernel
theorem dX11_planned_62 : decode cX11_planned 62 = .ok (.aload_n 0, 1) := by decide +kernel
theorem dX11_planned_63 : decode cX11_planned 63 = .ok (.getfield 90, 3) := by decide +kernel
theorem dX11_planned_66 : decode cX11_planned 66 = .ok (.iload_n 1, 1) := by decide +kernel
theorem dX11_planned_67 : decode cX11_planned 67 = .ok (.iaload, 1) := by decide +kernel
theorem dX11_planned_68 : decode cX11_planned 68 = .ok (.ireturn, 1) := by decide +kernel
theorem dX11_planned_69 : decode cX11_planned 69 = .ok (.aload_n 0, 1) := by decide +kernel
theorem dX11_planned_70 : decode cX11_planned 70 = .ok (.getfield 93, 3) := by decide +kernel
theorem dX11_planned_73 : decode cX11_planned 73 = .ok (.iload_n 1, 1) := by decide +kernel
theorem dX11_planned_74 : decode cX11_planned 74 = .ok (.iaload, 1) := by decide +kernel
theorem dX11_planned_75 : decode cX11_planned 75 = .ok (.ireturn, 1) := by decide +kernel
theorem dX11_planned_76 : decode cX11_planned 76 = .ok (.iconst (-1), 1) := by decide +kernel
theorem dX11_planned_77 : decode cX11_planned 77 = .ok (.ireturn, 1) := by decide +kernel
theorem dX11_tally_0 : decode cX11_tally 0 = .ok (.aload_n 0, 1) := by decide +kernel
theorem dX11_tally_1 : decode cX11_tally 1 = .ok (.getfield 283, 3) := by decide +kernel
theorem dX11_tally_4 : decode cX11_tally 4 = .ok (.bipush 20, 2) := by decide +kernel
theorem dX11_tally_6 : decode cX11_tally 6 = .ok (.if_icmp .eq 45, 3) := by decide +kernel
theorem dX11_tally_9 : decode cX11_tally 9 = .ok (.iload_n 1, 1) := by decide +kernel
theorem dX11_tally_10 : decode cX11_tally 10 = .ok (.iconst 0, 1) := by decide +kernel
theorem dX11_tally_11 : decode cX11_tally 11 = .ok (.iconst 5, 1) := by decide +kernel
theorem dX11_tally_12 : decode cX11_tally 12 = .ok (.invokestatic 139, 3) := by decide +kernel
theorem dX11_tally_15 : decode cX11_tally 15 = .ok (.ifCond .eq 36, 3) := by decide +kernel
theorem dX11_tally_18 : decode cX11_tally 18 = .ok (.iload_n 2, 1) := by decide +kernel
theorem dX11_tally_19 : decode cX11_tally 19 = .ok (.iconst 0, 1) := by decide +kernel
theorem dX11_tally_20 : decode cX11_tally 20 = .ok (.sipush 3000, 3) := by decide +kernel
theorem dX11_tally_23 : decode cX11_tally 23 = .ok (.invokestatic 139, 3) := by decide +kernel
theorem dX11_tally_26 : decode cX11_tally 26 = .ok (.ifCond .eq 25, 3) := by decide +kernel
theorem dX11_tally_29 : decode cX11_tally 29 = .ok (.iload_n 3, 1) := by decide +kernel
theorem dX11_tally_30 : decode cX11_tally 30 = .ok (.iload_n 2, 1) := by decide +kernel
theorem dX11_tally_31 : decode cX11_tally 31 = .ok (.sipush 3000, 3) := by decide +kernel
theorem dX11_tally_34 : decode cX11_tally 34 = .ok (.invokestatic 139, 3) := by decide +kernel
theorem dX11_tally_37 : decode cX11_tally 37 = .ok (.ifCond .eq 14, 3) := by decide +kernel
theorem dX11_tally_40 : decode cX11_tally 40 = .ok (.iload 4, 2) := by decide +kernel
theorem dX11_tally_42 : decode cX11_tally 42 = .ok (.iconst 0, 1) := by decide +kernel
theorem dX11_tally_43 : decode cX11_tally 43 = .ok (.bipush 30, 2) := by decide +kernel
theorem dX11_tally_45 : decode cX11_tally 45 = .ok (.invokestatic 139, 3) := by decide +kernel
theorem dX11_tally_48 : decode cX11_tally 48 = .ok (.ifCond .ne 5, 3) := by decide +kernel
theorem dX11_tally_51 : decode cX11_tally 51 = .ok (.iconst (-1), 1) := by decide +kernel
theorem dX11_tally_52 : decode cX11_tally 52 = .ok (.ireturn, 1) := by decide +kernel
theorem dX11_tally_53 : decode cX11_tally 53 = .ok (.aload_n 0, 1) := by decide +kernel
theorem dX11_tally_54 : decode cX11_tally 54 = .ok (.getfield 102, 3) := by decide +kernel
theorem dX11_tally_57 : decode cX11_tally 57 = .ok (.aload_n 0, 1) := by decide +kernel
theorem dX11_tally_58 : decode cX11_tally 58 = .ok (.getfield 283, 3) := by decide +kernel
theorem dX11_tally_61 : decode cX11_tally 61 = .ok (.iload_n 1, 1) := by decide +kernel
theorem dX11_tally_62 : decode cX11_tally 62 = .ok (.iastore, 1) := by decide +kernel
theorem dX11_tally_63 : decode cX11_tally 63 = .ok (.aload_n 0, 1) := by decide +kernel
theorem dX11_tally_64 : decode cX11_tally 64 = .ok (.getfield 105, 3) := by decide +kernel
theorem dX11_tally_67 : decode cX11_tally 67 = .ok (.aload_n 0, 1) := by decide +kernel
theorem dX11_tally_68 : decode cX11_tally 68 = .ok (.getfield 283, 3) := by decide +kernel
theorem dX11_tally_71 : decode cX11_tally 71 = .ok (.iload_n 2, 1) := by decide +kernel
theorem dX11_tally_72 : decode cX11_tally 72 = .ok (.iastore, 1) := by decide +kernel
theorem dX11_tally_73 : decode cX11_tally 73 = .ok (.aload_n 0, 1) := by decide +kernel
theorem dX11_tally_74 : decode cX11_tally 74 = .ok (.getfield 108, 3) := by decide +kernel
theorem dX11_tally_77 : decode cX11_tally 77 = .ok (.aload_n 0, 1) := by decide +kernel
theorem dX11_tally_78 : decode cX11_tally 78 = .ok (.getfield 283, 3) := by decide +kernel
theorem dX11_tally_81 : decode cX11_tally 81 = .ok (.iload_n 3, 1) := by decide +kernel
theorem dX11_tally_82 : decode cX11_tally 82 = .ok (.iastore, 1) := by decide +kernel
theorem dX11_tally_83 : decode cX11_tally 83 = .ok (.aload_n 0, 1) := by decide +kernel
theorem dX11_tally_84 : decode cX11_tally 84 = .ok (.getfield 111, 3) := by decide +kernel
theorem dX11_tally_87 : decode cX11_tally 87 = .ok (.aload_n 0, 1) := by decide +kernel
theorem dX11_tally_88 : decode cX11_tally 88 = .ok (.getfield 283, 3) := by decide +kernel
theorem dX11_tally_91 : decode cX11_tally 91 = .ok (.iload 4, 2) := by decide +kernel
theorem dX11_tally_93 : decode cX11_tally 93 = .ok (.iastore, 1) := by decide +kernel
theorem dX11_tally_94 : decode cX11_tally 94 = .ok (.aload_n 0, 1) := by decide +kernel
theorem dX11_tally_95 : decode cX11_tally 95 = .ok (.dup, 1) := by decide +kernel
theorem dX11_tally_96 : decode cX11_tally 96 = .ok (.getfield 283, 3) := by decide +kernel
theorem dX11_tally_99 : decode cX11_tally 99 = .ok (.iconst 1, 1) := by decide +kernel
theorem dX11_tally_100 : decode cX11_tally 100 = .ok (.iadd, 1) := by decide +kernel
theorem dX11_tally_101 : decode cX11_tally 101 = .ok (.putfield 283, 3) := by decide +kernel
theorem dX11_tally_104 : decode cX11_tally 104 = .ok (.aload_n 0, 1) := by decide +kernel
theorem dX11_tally_105 : decode cX11_tally 105 = .ok (.getfield 283, 3) := by decide +kernel
theorem dX11_tally_108 : decode cX11_tally 108 = .ok (.iconst 1, 1) := by decide +kernel
theorem dX11_tally_109 : decode cX11_tally 109 = .ok (.isub, 1) := by decide +kernel
theorem dX11_tally_110 : decode cX11_tally 110 = .ok (.ireturn, 1) := by decide +kernel
theorem dX11_isTrue_0 : decode cX11_isTrue 0 = .ok (.iload_n 1, 1) := by decide +kernel
theorem dX11_isTrue_1 : decode cX11_isTrue 1 = .ok (.iconst 0, 1) := by decide +kernel
theorem dX11_isTrue_2 : decode cX11_isTrue 2 = .ok (.aload_n 0, 1) := by decide +kernel
theorem dX11_isTrue_3 : decode cX11_isTrue 3 = .ok (.getfield 283, 3) := by decide +kernel
theorem dX11_isTrue_6 : decode cX11_isTrue 6 = .ok (.iconst 1, 1) := by decide +kernel
theorem dX11_isTrue_7 : decode cX11_isTrue 7 = .ok (.isub, 1) := by decide +kernel
theorem dX11_isTrue_8 : decode cX11_isTrue 8 = .ok (.invokestatic 139, 3) := by decide +kernel
theorem dX11_isTrue_11 : decode cX11_isTrue 11 = .ok (.ifCond .ne 5, 3) := by decide +kernel
theorem dX11_isTrue_14 : decode cX11_isTrue 14 = .ok (.iconst (-1), 1) := by decide +kernel
theorem dX11_isTrue_15 : decode cX11_isTrue 15 = .ok (.ireturn, 1) := by decide +kernel
theorem dX11_isTrue_16 : decode cX11_isTrue 16 = .ok (.iconst 0, 1) := by decide +kernel
theorem dX11_isTrue_17 : decode cX11_isTrue 17 = .ok (.istore_n 2, 1) := by decide +kernel
theorem dX11_isTrue_18 : decode cX11_isTrue 18 = .ok (.iconst 0, 1) := by decide +kernel
theorem dX11_isTrue_19 : decode cX11_isTrue 19 = .ok (.istore_n 3, 1) := by decide +kernel
theorem dX11_isTrue_20 : decode cX11_isTrue 20 = .ok (.iload_n 3, 1) := by decide +kernel
theorem dX11_isTrue_21 : decode cX11_isTrue 21 = .ok (.aload_n 0, 1) := by decide +kernel
theorem dX11_isTrue_22 : decode cX11_isTrue 22 = .ok (.getfield 216, 3) := by decide +kernel
theorem dX11_isTrue_25 : decode cX11_isTrue 25 = .ok (.if_icmp .ge 66, 3) := by decide +kernel
theorem dX11_isTrue_28 : decode cX11_isTrue 28 = .ok (.iload_n 2, 1) := by decide +kernel
theorem dX11_isTrue_29 : decode cX11_isTrue 29 = .ok (.aload_n 0, 1) := by decide +kernel
theorem dX11_isTrue_30 : decode cX11_isTrue 30 = .ok (.getfield 60, 3) := by decide +kernel
theorem dX11_isTrue_33 : decode cX11_isTrue 33 = .ok (.iload_n 3, 1) := by decide +kernel
theorem dX11_isTrue_34 : decode cX11_isTrue 34 = .ok (.iaload, 1) := by decide +kernel
theorem dX11_isTrue_35 : decode cX11_isTrue 35 = .ok (.iconst 5, 1) := by decide +kernel
theorem dX11_isTrue_36 : decode cX11_isTrue 36 = .ok (.if_icmp .ne 46, 3) := by decide +kernel
theorem dX11_isTrue_39 : decode cX11_isTrue 39 = .ok (.aload_n 0, 1) := by decide +kernel
theorem dX11_isTrue_40 : decode cX11_isTrue 40 = .ok (.getfield 63, 3) := by decide +kernel
theorem dX11_isTrue_43 : decode cX11_isTrue 43 = .ok (.iload_n 3, 1) := by decide +kernel
theorem dX11_isTrue_44 : decode cX11_isTrue 44 = .ok (.iaload, 1) := by decide +kernel
theorem dX11_isTrue_45 : decode cX11_isTrue 45 = .ok (.aload_n 0, 1) := by decide +kernel
theorem dX11_isTrue_46 : decode cX11_isTrue 46 = .ok (.getfield 102, 3) := by decide +kernel
theorem dX11_isTrue_49 : decode cX11_isTrue 49 = .ok (.iload_n 1, 1) := by decide +kernel
theorem dX11_isTrue_50 : decode cX11_isTrue 50 = .ok (.iaload, 1) := by decide +kernel
theorem dX11_isTrue_51 : decode cX11_isTrue 51 = .ok (.if_icmp .ne 31, 3) := by decide +kernel
theorem dX11_isTrue_54 : decode cX11_isTrue 54 = .ok (.aload_n 0, 1) := by decide +kernel
theorem dX11_isTrue_55 : decode cX11_isTrue 55 = .ok (.getfield 66, 3) := by decide +kernel
theorem dX11_isTrue_58 : decode cX11_isTrue 58 = .ok (.iload_n 3, 1) := by decide +kernel
theorem dX11_isTrue_59 : decode cX11_isTrue 59 = .ok (.iaload, 1) := by decide +kernel
theorem dX11_isTrue_60 : decode cX11_isTrue 60 = .ok (.aload_n 0, 1) := by decide +kernel
theorem dX11_isTrue_61 : decode cX11_isTrue 61 = .ok (.getfield 105, 3) := by decide +kernel
theorem dX11_isTrue_64 : decode cX11_isTrue 64 = .ok (.iload_n 1, 1) := by decide +kernel
theorem dX11_isTrue_65 : decode cX11_isTrue 65 = .ok (.iaload, 1) := by decide +kernel
theorem dX11_isTrue_66 : decode cX11_isTrue 66 = .ok (.aload_n 0, 1) := by decide +kernel
theorem dX11_isTrue_67 : decode cX11_isTrue 67 = .ok (.getfield 108, 3) := by decide +kernel
theorem dX11_isTrue_70 : decode cX11_isTrue 70 = .ok (.iload_n 1, 1) := by decide +kernel
theorem dX11_isTrue_71 : decode cX11_isTrue 71 = .ok (.iaload, 1) := by decide +kernel
theorem dX11_isTrue_72 : decode cX11_isTrue 72 = .ok (.invokestatic 139, 3) := by decide +kernel
theorem dX11_isTrue_75 : decode cX11_isTrue 75 = .ok (.ifCond .eq 7, 3) := by decide +kernel
theorem dX11_isTrue_78 : decode cX11_isTrue 78 = .ok (.iconst 1, 1) := by decide +kernel
theorem dX11_isTrue_79 : decode cX11_isTrue 79 = .ok (.goto 4, 3) := by decide +kernel
theorem dX11_isTrue_82 : decode cX11_isTrue 82 = .ok (.iconst 0, 1) := by decide +kernel
theorem dX11_isTrue_83 : decode cX11_isTrue 83 = .ok (.iadd, 1) := by decide +kernel
theorem dX11_isTrue_84 : decode cX11_isTrue 84 = .ok (.istore_n 2, 1) := by decide +kernel
theorem dX11_isTrue_85 : decode cX11_isTrue 85 = .ok (.iinc 3 1, 3) := by decide +kernel
theorem dX11_isTrue_88 : decode cX11_isTrue 88 = .ok (.goto (-68), 3) := by decide +kernel
theorem dX11_isTrue_91 : decode cX11_isTrue 91 = .ok (.iload_n 2, 1) := by decide +kernel
theorem dX11_isTrue_92 : decode cX11_isTrue 92 = .ok (.aload_n 0, 1) := by decide +kernel
theorem dX11_isTrue_93 : decode cX11_isTrue 93 = .ok (.getfield 111, 3) := by decide +kernel
theorem dX11_isTrue_96 : decode cX11_isTrue 96 = .ok (.iload_n 1, 1) := by decide +kernel
theorem dX11_isTrue_97 : decode cX11_isTrue 97 = .ok (.iaload, 1) := by decide +kernel
theorem dX11_isTrue_98 : decode cX11_isTrue 98 = .ok (.if_icmp .ne 7, 3) := by decide +kernel
theorem dX11_isTrue_101 : decode cX11_isTrue 101 = .ok (.iconst 1, 1) := by decide +kernel
theorem dX11_isTrue_102 : decode cX11_isTrue 102 = .ok (.goto 4, 3) := by decide +kernel
theorem dX11_isTrue_105 : decode cX11_isTrue 105 = .ok (.iconst 0, 1) := by decide +kernel
theorem dX11_isTrue_106 : decode cX11_isTrue 106 = .ok (.ireturn, 1) := by decide +kernel
theorem dX11_pointOf_0 : decode cX11_pointOf 0 = .ok (.iconst 0, 1) := by decide +kernel
theorem dX11_pointOf_1 : decode cX11_pointOf 1 = .ok (.istore_n 2, 1) := by decide +kernel
theorem dX11_pointOf_2 : decode cX11_pointOf 2 = .ok (.iload_n 2, 1) := by decide +kernel
theorem dX11_pointOf_3 : decode cX11_pointOf 3 = .ok (.aload_n 0, 1) := by decide +kernel
theorem dX11_pointOf_4 : decode cX11_pointOf 4 = .ok (.getfield 286, 3) := by decide +kernel
theorem dX11_pointOf_7 : decode cX11_pointOf 7 = .ok (.if_icmp .ge 21, 3) := by decide +kernel
theorem dX11_pointOf_10 : decode cX11_pointOf 10 = .ok (.aload_n 0, 1) := by decide +kernel
theorem dX11_pointOf_11 : decode cX11_pointOf 11 = .ok (.getfield 117, 3) := by decide +kernel
theorem dX11_pointOf_14 : decode cX11_pointOf 14 = .ok (.iload_n 2, 1) := by decide +kernel
theorem dX11_pointOf_15 : decode cX11_pointOf 15 = .ok (.iaload, 1) := by decide +kernel
theorem dX11_pointOf_16 : decode cX11_pointOf 16 = .ok (.iload_n 1, 1) := by decide +kernel
theorem dX11_pointOf_17 : decode cX11_pointOf 17 = .ok (.if_icmp .ne 5, 3) := by decide +kernel
theorem dX11_pointOf_20 : decode cX11_pointOf 20 = .ok (.iload_n 2, 1) := by decide +kernel
theorem dX11_pointOf_21 : decode cX11_pointOf 21 = .ok (.ireturn, 1) := by decide +kernel
theorem dX11_pointOf_22 : decode cX11_pointOf 22 = .ok (.iinc 2 1, 3) := by decide +kernel
theorem dX11_pointOf_25 : decode cX11_pointOf 25 = .ok (.goto (-23), 3) := by decide +kernel
theorem dX11_pointOf_28 : decode cX11_pointOf 28 = .ok (.aload_n 0, 1) := by decide +kernel
theorem dX11_pointOf_29 : decode cX11_pointOf 29 = .ok (.getfield 117, 3) := by decide +kernel
theorem dX11_pointOf_32 : decode cX11_pointOf 32 = .ok (.aload_n 0, 1) := by decide +kernel
theorem dX11_pointOf_33 : decode cX11_pointOf 33 = .ok (.getfield 286, 3) := by decide +kernel
theorem dX11_pointOf_36 : decode cX11_pointOf 36 = .ok (.iload_n 1, 1) := by decide +kernel
theorem dX11_pointOf_37 : decode cX11_pointOf 37 = .ok (.iastore, 1) := by decide +kernel
theorem dX11_pointOf_38 : decode cX11_pointOf 38 = .ok (.aload_n 0, 1) := by decide +kernel
theorem dX11_pointOf_39 : decode cX11_pointOf 39 = .ok (.dup, 1) := by decide +kernel
theorem dX11_pointOf_40 : decode cX11_pointOf 40 = .ok (.getfield 286, 3) := by decide +kernel
theorem dX11_pointOf_43 : decode cX11_pointOf 43 = .ok (.iconst 1, 1) := by decide +kernel
theorem dX11_pointOf_44 : decode cX11_pointOf 44 = .ok (.iadd, 1) := by decide +kernel
theorem dX11_pointOf_45 : decode cX11_pointOf 45 = .ok (.putfield 286, 3) := by decide +kernel
theorem dX11_pointOf_48 : decode cX11_pointOf 48 = .ok (.aload_n 0, 1) := by decide +kernel
theorem dX11_pointOf_49 : decode cX11_pointOf 49 = .ok (.getfield 286, 3) := by decide +kernel
theorem dX11_pointOf_52 : decode cX11_pointOf 52 = .ok (.iconst 1, 1) := by decide +kernel
theorem dX11_pointOf_53 : decode cX11_pointOf 53 = .ok (.isub, 1) := by decide +kernel
theorem dX11_pointOf_54 : decode cX11_pointOf 54 = .ok (.ireturn, 1) := by decide +kernel
theorem dX11_canBe_0 : decode cX11_canBe 0 = .ok (.aload_n 0, 1) := by decide +kernel
theorem dX11_canBe_1 : decode cX11_canBe 1 = .ok (.iconst 0, 1) := by decide +kernel
theorem dX11_canBe_2 : decode cX11_canBe 2 = .ok (.putfield 286, 3) := by decide +kernel
theorem dX11_canBe_5 : decode cX11_canBe 5 = .ok (.iconst 0, 1) := by decide +kernel
theorem dX11_canBe_6 : decode cX11_canBe 6 = .ok (.istore_n 2, 1) := by decide +kernel
theorem dX11_canBe_7 : decode cX11_canBe 7 = .ok (.iload_n 2, 1) := by decide +kernel
theorem dX11_canBe_8 : decode cX11_canBe 8 = .ok (.aload_n 0, 1) := by decide +kernel
theorem dX11_canBe_9 : decode cX11_canBe 9 = .ok (.getfield 283, 3) := by decide +kernel
theorem dX11_canBe_12 : decode cX11_canBe 12 = .ok (.if_icmp .ge 52, 3) := by decide +kernel
theorem dX11_canBe_15 : decode cX11_canBe 15 = .ok (.aload_n 0, 1) := by decide +kernel
theorem dX11_canBe_16 : decode cX11_canBe 16 = .ok (.getfield 114, 3) := by decide +kernel
theorem dX11_canBe_19 : decode cX11_canBe 19 = .ok (.iload_n 2, 1) := by decide +kernel
theorem dX11_canBe_20 : decode cX11_canBe 20 = .ok (.baload, 1) := by decide +kernel
theorem dX11_canBe_21 : decode cX11_canBe 21 = .ok (.ifCond .eq 37, 3) := by decide +kernel
theorem dX11_canBe_24 : decode cX11_canBe 24 = .ok (.aload_n 0, 1) := by decide +kernel
theorem dX11_canBe_25 : decode cX11_canBe 25 = .ok (.getfield 102, 3) := by decide +kernel
theorem dX11_canBe_28 : decode cX11_canBe 28 = .ok (.iload_n 2, 1) := by decide +kernel
theorem dX11_canBe_29 : decode cX11_canBe 29 = .ok (.iaload, 1) := by decide +kernel
theorem dX11_canBe_30 : decode cX11_canBe 30 = .ok (.iload_n 1, 1) := by decide +kernel
theorem dX11_canBe_31 : decode cX11_canBe 31 = .ok (.if_icmp .ne 27, 3) := by decide +kernel
theorem dX11_canBe_34 : decode cX11_canBe 34 = .ok (.aload_n 0, 1) := by decide +kernel
theorem dX11_canBe_35 : decode cX11_canBe 35 = .ok (.aload_n 0, 1) := by decide +kernel
theorem dX11_canBe_36 : decode cX11_canBe 36 = .ok (.getfield 105, 3) := by decide +kernel
theorem dX11_canBe_39 : decode cX11_canBe 39 = .ok (.iload_n 2, 1) := by decide +kernel
theorem dX11_canBe_40 : decode cX11_canBe 40 = .ok (.iaload, 1) := by decide +kernel
theorem dX11_canBe_41 : decode cX11_canBe 41 = .ok (.invokevirtual 289, 3) := by decide +kernel
theorem dX11_canBe_44 : decode cX11_canBe 44 = .ok (.pop, 1) := by decide +kernel
theorem dX11_canBe_45 : decode cX11_canBe 45 = .ok (.aload_n 0, 1) := by decide +kernel
theorem dX11_canBe_46 : decode cX11_canBe 46 = .ok (.aload_n 0, 1) := by decide +kernel
theorem dX11_canBe_47 : decode cX11_canBe 47 = .ok (.getfield 108, 3) := by decide +kernel
theorem dX11_canBe_50 : decode cX11_canBe 50 = .ok (.iload_n 2, 1) := by decide +kernel
theorem dX11_canBe_51 : decode cX11_canBe 51 = .ok (.iaload, 1) := by decide +kernel
theorem dX11_canBe_52 : decode cX11_canBe 52 = .ok (.iconst 1, 1) := by decide +kernel
theorem dX11_canBe_53 : decode cX11_canBe 53 = .ok (.iadd, 1) := by decide +kernel
theorem dX11_canBe_54 : decode cX11_canBe 54 = .ok (.invokevirtual 289, 3) := by decide +kernel
theorem dX11_canBe_57 : decode cX11_canBe 57 = .ok (.pop, 1) := by decide +kernel
theorem dX11_canBe_58 : decode cX11_canBe 58 = .ok (.iinc 2 1, 3) := by decide +kernel
theorem dX11_canBe_61 : decode cX11_canBe 61 = .ok (.goto (-54), 3) := by decide +kernel
theorem dX11_canBe_64 : decode cX11_canBe 64 = .ok (.iconst 0, 1) := by decide +kernel
theorem dX11_canBe_65 : decode cX11_canBe 65 = .ok (.istore_n 2, 1) := by decide +kernel
theorem dX11_canBe_66 : decode cX11_canBe 66 = .ok (.iload_n 2, 1) := by decide +kernel
theorem dX11_canBe_67 : decode cX11_canBe 67 = .ok (.aload_n 0, 1) := by decide +kernel
theorem dX11_canBe_68 : decode cX11_canBe 68 = .ok (.getfield 286, 3) := by decide +kernel
theorem dX11_canBe_71 : decode cX11_canBe 71 = .ok (.if_icmp .ge 55, 3) := by decide +kernel
theorem dX11_canBe_74 : decode cX11_canBe 74 = .ok (.iconst 0, 1) := by decide +kernel
theorem dX11_canBe_75 : decode cX11_canBe 75 = .ok (.istore_n 3, 1) := by decide +kernel
theorem dX11_canBe_76 : decode cX11_canBe 76 = .ok (.iload_n 3, 1) := by decide +kernel
theorem dX11_canBe_77 : decode cX11_canBe 77 = .ok (.aload_n 0, 1) := by decide +kernel
theorem dX11_canBe_78 : decode cX11_canBe 78 = .ok (.getfield 286, 3) := by decide +kernel
theorem dX11_canBe_81 : decode cX11_canBe 81 = .ok (.if_icmp .ge 39, 3) := by decide +kernel
theorem dX11_canBe_84 : decode cX11_canBe 84 = .ok (.aload_n 0, 1) := by decide +kernel
theorem dX11_canBe_85 : decode cX11_canBe 85 = .ok (.getfield 122, 3) := by decide +kernel
theorem dX11_canBe_88 : decode cX11_canBe 88 = .ok (.iload_n 2, 1) := by decide +kernel
theorem dX11_canBe_89 : decode cX11_canBe 89 = .ok (.aaload, 1) := by decide +kernel
theorem dX11_canBe_90 : decode cX11_canBe 90 = .ok (.iload_n 3, 1) := by decide +kernel
theorem dX11_canBe_91 : decode cX11_canBe 91 = .ok (.aload_n 0, 1) := by decide +kernel
theorem dX11_canBe_92 : decode cX11_canBe 92 = .ok (.getfield 117, 3) := by decide +kernel
theorem dX11_canBe_95 : decode cX11_canBe 95 = .ok (.iload_n 3, 1) := by decide +kernel
theorem dX11_canBe_96 : decode cX11_canBe 96 = .ok (.iaload, 1) := by decide +kernel
theorem dX11_canBe_97 : decode cX11_canBe 97 = .ok (.aload_n 0, 1) := by decide +kernel
theorem dX11_canBe_98 : decode cX11_canBe 98 = .ok (.getfield 117, 3) := by decide +kernel
theorem dX11_canBe_101 : decode cX11_canBe 101 = .ok (.iload_n 2, 1) := by decide +kernel
theorem dX11_canBe_102 : decode cX11_canBe 102 = .ok (.iaload, 1) := by decide +kernel
theorem dX11_canBe_103 : decode cX11_canBe 103 = .ok (.if_icmp .gt 7, 3) := by decide +kernel
theorem dX11_canBe_106 : decode cX11_canBe 106 = .ok (.iconst 0, 1) := by decide +kernel
theorem dX11_canBe_107 : decode cX11_canBe 107 = .ok (.goto 6, 3) := by decide +kernel
theorem dX11_canBe_110 : decode cX11_canBe 110 = .ok (.ldc_w 292, 3) := by decide +kernel
theorem dX11_canBe_113 : decode cX11_canBe 113 = .ok (.iastore, 1) := by decide +kernel
theorem dX11_canBe_114 : decode cX11_canBe 114 = .ok (.iinc 3 1, 3) := by decide +kernel
theorem dX11_canBe_117 : decode cX11_canBe 117 = .ok (.goto (-41), 3) := by decide +kernel
theorem dX11_canBe_120 : decode cX11_canBe 120 = .ok (.iinc 2 1, 3) := by decide +kernel
theorem dX11_canBe_123 : decode cX11_canBe 123 = .ok (.goto (-57), 3) := by decide +kernel
theorem dX11_canBe_126 : decode cX11_canBe 126 = .ok (.iconst 0, 1) := by decide +kernel
theorem dX11_canBe_127 : decode cX11_canBe 127 = .ok (.istore_n 2, 1) := by decide +kernel
theorem dX11_canBe_128 : decode cX11_canBe 128 = .ok (.iload_n 2, 1) := by decide +kernel
theorem dX11_canBe_129 : decode cX11_canBe 129 = .ok (.aload_n 0, 1) := by decide +kernel
theorem dX11_canBe_130 : decode cX11_canBe 130 = .ok (.getfield 283, 3) := by decide +kernel
theorem dX11_canBe_133 : decode cX11_canBe 133 = .ok (.if_icmp .ge 145, 3) := by decide +kernel
theorem dX11_canBe_136 : decode cX11_canBe 136 = .ok (.aload_n 0, 1) := by decide +kernel
theorem dX11_canBe_137 : decode cX11_canBe 137 = .ok (.getfield 114, 3) := by decide +kernel
theorem dX11_canBe_140 : decode cX11_canBe 140 = .ok (.iload_n 2, 1) := by decide +kernel
theorem dX11_canBe_141 : decode cX11_canBe 141 = .ok (.baload, 1) := by decide +kernel
theorem dX11_canBe_142 : decode cX11_canBe 142 = .ok (.ifCond .eq 130, 3) := by decide +kernel
theorem dX11_canBe_145 : decode cX11_canBe 145 = .ok (.aload_n 0, 1) := by decide +kernel
theorem dX11_canBe_146 : decode cX11_canBe 146 = .ok (.getfield 102, 3) := by decide +kernel
theorem dX11_canBe_149 : decode cX11_canBe 149 = .ok (.iload_n 2, 1) := by decide +kernel
theorem dX11_canBe_150 : decode cX11_canBe 150 = .ok (.iaload, 1) := by decide +kernel
theorem dX11_canBe_151 : decode cX11_canBe 151 = .ok (.iload_n 1, 1) := by decide +kernel
theorem dX11_canBe_152 : decode cX11_canBe 152 = .ok (.if_icmp .ne 120, 3) := by decide +kernel
theorem dX11_canBe_155 : decode cX11_canBe 155 = .ok (.aload_n 0, 1) := by decide +kernel
theorem dX11_canBe_156 : decode cX11_canBe 156 = .ok (.aload_n 0, 1) := by decide +kernel
theorem dX11_canBe_157 : decode cX11_canBe 157 = .ok (.getfield 105, 3) := by decide +kernel
theorem dX11_canBe_160 : decode cX11_canBe 160 = .ok (.iload_n 2, 1) := by decide +kernel
theorem dX11_canBe_161 : decode cX11_canBe 161 = .ok (.iaload, 1) := by decide +kernel
theorem dX11_canBe_162 : decode cX11_canBe 162 = .ok (.invokevirtual 289, 3) := by decide +kernel
theorem dX11_canBe_165 : decode cX11_canBe 165 = .ok (.istore_n 3, 1) := by decide +kernel
theorem dX11_canBe_166 : decode cX11_canBe 166 = .ok (.aload_n 0, 1) := by decide +kernel
theorem dX11_canBe_167 : decode cX11_canBe 167 = .ok (.aload_n 0, 1) := by decide +kernel
theorem dX11_canBe_168 : decode cX11_canBe 168 = .ok (.getfield 108, 3) := by decide +kernel
theorem dX11_canBe_171 : decode cX11_canBe 171 = .ok (.iload_n 2, 1) := by decide +kernel
theorem dX11_canBe_172 : decode cX11_canBe 172 = .ok (.iaload, 1) := by decide +kernel
theorem dX11_canBe_173 : decode cX11_canBe 173 = .ok (.iconst 1, 1) := by decide +kernel
theorem dX11_canBe_174 : decode cX11_canBe 174 = .ok (.iadd, 1) := by decide +kernel
theorem dX11_canBe_175 : decode cX11_canBe 175 = .ok (.invokevirtual 289, 3) := by decide +kernel
theorem dX11_canBe_178 : decode cX11_canBe 178 = .ok (.istore 4, 2) := by decide +kernel
theorem dX11_canBe_180 : decode cX11_canBe 180 = .ok (.aload_n 0, 1) := by decide +kernel
theorem dX11_canBe_181 : decode cX11_canBe 181 = .ok (.getfield 122, 3) := by decide +kernel
theorem dX11_canBe_184 : decode cX11_canBe 184 = .ok (.iload_n 3, 1) := by decide +kernel
theorem dX11_canBe_185 : decode cX11_canBe 185 = .ok (.aaload, 1) := by decide +kernel
theorem dX11_canBe_186 : decode cX11_canBe 186 = .ok (.iload 4, 2) := by decide +kernel
theorem dX11_canBe_188 : decode cX11_canBe 188 = .ok (.aload_n 0, 1) := by decide +kernel
theorem dX11_canBe_189 : decode cX11_canBe 189 = .ok (.getfield 122, 3) := by decide +kernel
theorem dX11_canBe_192 : decode cX11_canBe 192 = .ok (.iload_n 3, 1) := by decide +kernel
theorem dX11_canBe_193 : decode cX11_canBe 193 = .ok (.aaload, 1) := by decide +kernel
theorem dX11_canBe_194 : decode cX11_canBe 194 = .ok (.iload 4, 2) := by decide +kernel
theorem dX11_canBe_196 : decode cX11_canBe 196 = .ok (.iaload, 1) := by decide +kernel
theorem dX11_canBe_197 : decode cX11_canBe 197 = .ok (.aload_n 0, 1) := by decide +kernel
theorem dX11_canBe_198 : decode cX11_canBe 198 = .ok (.getfield 111, 3) := by decide +kernel
theorem dX11_canBe_201 : decode cX11_canBe 201 = .ok (.iload_n 2, 1) := by decide +kernel
theorem dX11_canBe_202 : decode cX11_canBe 202 = .ok (.iaload, 1) := by decide +kernel
theorem dX11_canBe_203 : decode cX11_canBe 203 = .ok (.if_icmp .ge 15, 3) := by decide +kernel
theorem dX11_canBe_206 : decode cX11_canBe 206 = .ok (.aload_n 0, 1) := by decide +kernel
theorem dX11_canBe_207 : decode cX11_canBe 207 = .ok (.getfield 122, 3) := by decide +kernel
theorem dX11_canBe_210 : decode cX11_canBe 210 = .ok (.iload_n 3, 1) := by decide +kernel
theorem dX11_canBe_211 : decode cX11_canBe 211 = .ok (.aaload, 1) := by decide +kernel
theorem dX11_canBe_212 : decode cX11_canBe 212 = .ok (.iload 4, 2) := by decide +kernel
theorem dX11_canBe_214 : decode cX11_canBe 214 = .ok (.iaload, 1) := by decide +kernel
theorem dX11_canBe_215 : decode cX11_canBe 215 = .ok (.goto 9, 3) := by decide +kernel
theorem dX11_canBe_218 : decode cX11_canBe 218 = .ok (.aload_n 0, 1) := by decide +kernel
theorem dX11_canBe_219 : decode cX11_canBe 219 = .ok (.getfield 111, 3) := by decide +kernel
theorem dX11_canBe_222 : decode cX11_canBe 222 = .ok (.iload_n 2, 1) := by decide +kernel
theorem dX11_canBe_223 : decode cX11_canBe 223 = .ok (.iaload, 1) := by decide +kernel
theorem dX11_canBe_224 : decode cX11_canBe 224 = .ok (.iastore, 1) := by decide +kernel
theorem dX11_canBe_225 : decode cX11_canBe 225 = .ok (.aload_n 0, 1) := by decide +kernel
theorem dX11_canBe_226 : decode cX11_canBe 226 = .ok (.getfield 122, 3) := by decide +kernel
theorem dX11_canBe_229 : decode cX11_canBe 229 = .ok (.iload 4, 2) := by decide +kernel
theorem dX11_canBe_231 : decode cX11_canBe 231 = .ok (.aaload, 1) := by decide +kernel
theorem dX11_canBe_232 : decode cX11_canBe 232 = .ok (.iload_n 3, 1) := by decide +kernel
theorem dX11_canBe_233 : decode cX11_canBe 233 = .ok (.aload_n 0, 1) := by decide +kernel
theorem dX11_canBe_234 : decode cX11_canBe 234 = .ok (.getfield 122, 3) := by decide +kernel
theorem dX11_canBe_237 : decode cX11_canBe 237 = .ok (.iload 4, 2) := by decide +kernel
theorem dX11_canBe_239 : decode cX11_canBe 239 = .ok (.aaload, 1) := by decide +kernel
theorem dX11_canBe_240 : decode cX11_canBe 240 = .ok (.iload_n 3, 1) := by decide +kernel
theorem dX11_canBe_241 : decode cX11_canBe 241 = .ok (.iaload, 1) := by decide +kernel
theorem dX11_canBe_242 : decode cX11_canBe 242 = .ok (.aload_n 0, 1) := by decide +kernel
theorem dX11_canBe_243 : decode cX11_canBe 243 = .ok (.getfield 111, 3) := by decide +kernel
theorem dX11_canBe_246 : decode cX11_canBe 246 = .ok (.iload_n 2, 1) := by decide +kernel
theorem dX11_canBe_247 : decode cX11_canBe 247 = .ok (.iaload, 1) := by decide +kernel
theorem dX11_canBe_248 : decode cX11_canBe 248 = .ok (.ineg, 1) := by decide +kernel
theorem dX11_canBe_249 : decode cX11_canBe 249 = .ok (.if_icmp .ge 15, 3) := by decide +kernel
theorem dX11_canBe_252 : decode cX11_canBe 252 = .ok (.aload_n 0, 1) := by decide +kernel
theorem dX11_canBe_253 : decode cX11_canBe 253 = .ok (.getfield 122, 3) := by decide +kernel
theorem dX11_canBe_256 : decode cX11_canBe 256 = .ok (.iload 4, 2) := by decide +kernel
theorem dX11_canBe_258 : decode cX11_canBe 258 = .ok (.aaload, 1) := by decide +kernel
theorem dX11_canBe_259 : decode cX11_canBe 259 = .ok (.iload_n 3, 1) := by decide +kernel
theorem dX11_canBe_260 : decode cX11_canBe 260 = .ok (.iaload, 1) := by decide +kernel
theorem dX11_canBe_261 : decode cX11_canBe 261 = .ok (.goto 10, 3) := by decide +kernel
theorem dX11_canBe_264 : decode cX11_canBe 264 = .ok (.aload_n 0, 1) := by decide +kernel
theorem dX11_canBe_265 : decode cX11_canBe 265 = .ok (.getfield 111, 3) := by decide +kernel
theorem dX11_canBe_268 : decode cX11_canBe 268 = .ok (.iload_n 2, 1) := by decide +kernel
theorem dX11_canBe_269 : decode cX11_canBe 269 = .ok (.iaload, 1) := by decide +kernel
theorem dX11_canBe_270 : decode cX11_canBe 270 = .ok (.ineg, 1) := by decide +kernel
theorem dX11_canBe_271 : decode cX11_canBe 271 = .ok (.iastore, 1) := by decide +kernel
theorem dX11_canBe_272 : decode cX11_canBe 272 = .ok (.iinc 2 1, 3) := by decide +kernel
theorem dX11_canBe_275 : decode cX11_canBe 275 = .ok (.goto (-147), 3) := by decide +kernel
theorem dX11_canBe_278 : decode cX11_canBe 278 = .ok (.iconst 0, 1) := by decide +kernel
theorem dX11_canBe_279 : decode cX11_canBe 279 = .ok (.istore_n 2, 1) := by decide +kernel
theorem dX11_canBe_280 : decode cX11_canBe 280 = .ok (.iload_n 2, 1) := by decide +kernel
theorem dX11_canBe_281 : decode cX11_canBe 281 = .ok (.aload_n 0, 1) := by decide +kernel
theorem dX11_canBe_282 : decode cX11_canBe 282 = .ok (.getfield 286, 3) := by decide +kernel
theorem dX11_canBe_285 : decode cX11_canBe 285 = .ok (.if_icmp .ge 164, 3) := by decide +kernel
theorem dX11_canBe_288 : decode cX11_canBe 288 = .ok (.iconst 0, 1) := by decide +kernel
theorem dX11_canBe_289 : decode cX11_canBe 289 = .ok (.istore_n 3, 1) := by decide +kernel
theorem dX11_canBe_290 : decode cX11_canBe 290 = .ok (.iload_n 3, 1) := by decide +kernel
theorem dX11_canBe_291 : decode cX11_canBe 291 = .ok (.aload_n 0, 1) := by decide +kernel
theorem dX11_canBe_292 : decode cX11_canBe 292 = .ok (.getfield 286, 3) := by decide +kernel
theorem dX11_canBe_295 : decode cX11_canBe 295 = .ok (.if_icmp .ge 119, 3) := by decide +kernel
theorem dX11_canBe_298 : decode cX11_canBe 298 = .ok (.iconst 0, 1) := by decide +kernel
theorem dX11_canBe_299 : decode cX11_canBe 299 = .ok (.istore 4, 2) := by decide +kernel
theorem dX11_canBe_301 : decode cX11_canBe 301 = .ok (.iload 4, 2) := by decide +kernel
theorem dX11_canBe_303 : decode cX11_canBe 303 = .ok (.aload_n 0, 1) := by decide +kernel
theorem dX11_canBe_304 : decode cX11_canBe 304 = .ok (.getfield 286, 3) := by decide +kernel
theorem dX11_canBe_307 : decode cX11_canBe 307 = .ok (.if_icmp .ge 101, 3) := by decide +kernel
theorem dX11_canBe_310 : decode cX11_canBe 310 = .ok (.aload_n 0, 1) := by decide +kernel
theorem dX11_canBe_311 : decode cX11_canBe 311 = .ok (.getfield 122, 3) := by decide +kernel
theorem dX11_canBe_314 : decode cX11_canBe 314 = .ok (.iload_n 3, 1) := by decide +kernel
theorem dX11_canBe_315 : decode cX11_canBe 315 = .ok (.aaload, 1) := by decide +kernel
theorem dX11_canBe_316 : decode cX11_canBe 316 = .ok (.iload_n 2, 1) := by decide +kernel
theorem dX11_canBe_317 : decode cX11_canBe 317 = .ok (.iaload, 1) := by decide +kernel
theorem dX11_canBe_318 : decode cX11_canBe 318 = .ok (.ldc_w 292, 3) := by decide +kernel
theorem dX11_canBe_321 : decode cX11_canBe 321 = .ok (.if_icmp .eq 18, 3) := by decide +kernel
theorem dX11_canBe_324 : decode cX11_canBe 324 = .ok (.aload_n 0, 1) := by decide +kernel
theorem dX11_canBe_325 : decode cX11_canBe 325 = .ok (.getfield 122, 3) := by decide +kernel
theorem dX11_canBe_328 : decode cX11_canBe 328 = .ok (.iload_n 2, 1) := by decide +kernel
theorem dX11_canBe_329 : decode cX11_canBe 329 = .ok (.aaload, 1) := by decide +kernel
theorem dX11_canBe_330 : decode cX11_canBe 330 = .ok (.iload 4, 2) := by decide +kernel
theorem dX11_canBe_332 : decode cX11_canBe 332 = .ok (.iaload, 1) := by decide +kernel
theorem dX11_canBe_333 : decode cX11_canBe 333 = .ok (.ldc_w 292, 3) := by decide +kernel
theorem dX11_canBe_336 : decode cX11_canBe 336 = .ok (.if_icmp .ne 9, 3) := by decide +kernel
theorem dX11_canBe_339 : decode cX11_canBe 339 = .ok (.ldc_w 292, 3) := by decide +kernel
theorem dX11_canBe_342 : decode cX11_canBe 342 = .ok (.goto 21, 3) := by decide +kernel
theorem dX11_canBe_345 : decode cX11_canBe 345 = .ok (.aload_n 0, 1) := by decide +kernel
theorem dX11_canBe_346 : decode cX11_canBe 346 = .ok (.getfield 122, 3) := by decide +kernel
theorem dX11_canBe_349 : decode cX11_canBe 349 = .ok (.iload_n 3, 1) := by decide +kernel
theorem dX11_canBe_350 : decode cX11_canBe 350 = .ok (.aaload, 1) := by decide +kernel
theorem dX11_canBe_351 : decode cX11_canBe 351 = .ok (.iload_n 2, 1) := by decide +kernel
theorem dX11_canBe_352 : decode cX11_canBe 352 = .ok (.iaload, 1) := by decide +kernel
theorem dX11_canBe_353 : decode cX11_canBe 353 = .ok (.aload_n 0, 1) := by decide +kernel
theorem dX11_canBe_354 : decode cX11_canBe 354 = .ok (.getfield 122, 3) := by decide +kernel
theorem dX11_canBe_357 : decode cX11_canBe 357 = .ok (.iload_n 2, 1) := by decide +kernel
theorem dX11_canBe_358 : decode cX11_canBe 358 = .ok (.aaload, 1) := by decide +kernel
theorem dX11_canBe_359 : decode cX11_canBe 359 = .ok (.iload 4, 2) := by decide +kernel
theorem dX11_canBe_361 : decode cX11_canBe 361 = .ok (.iaload, 1) := by decide +kernel
theorem dX11_canBe_362 : decode cX11_canBe 362 = .ok (.iadd, 1) := by decide +kernel
theorem dX11_canBe_363 : decode cX11_canBe 363 = .ok (.istore 5, 2) := by decide +kernel
theorem dX11_canBe_365 : decode cX11_canBe 365 = .ok (.aload_n 0, 1) := by decide +kernel
theorem dX11_canBe_366 : decode cX11_canBe 366 = .ok (.getfield 122, 3) := by decide +kernel
theorem dX11_canBe_369 : decode cX11_canBe 369 = .ok (.iload_n 3, 1) := by decide +kernel
theorem dX11_canBe_370 : decode cX11_canBe 370 = .ok (.aaload, 1) := by decide +kernel
theorem dX11_canBe_371 : decode cX11_canBe 371 = .ok (.iload 4, 2) := by decide +kernel
theorem dX11_canBe_373 : decode cX11_canBe 373 = .ok (.aload_n 0, 1) := by decide +kernel
theorem dX11_canBe_374 : decode cX11_canBe 374 = .ok (.getfield 122, 3) := by decide +kernel
theorem dX11_canBe_377 : decode cX11_canBe 377 = .ok (.iload_n 3, 1) := by decide +kernel
theorem dX11_canBe_378 : decode cX11_canBe 378 = .ok (.aaload, 1) := by decide +kernel
theorem dX11_canBe_379 : decode cX11_canBe 379 = .ok (.iload 4, 2) := by decide +kernel
theorem dX11_canBe_381 : decode cX11_canBe 381 = .ok (.iaload, 1) := by decide +kernel
theorem dX11_canBe_382 : decode cX11_canBe 382 = .ok (.iload 5, 2) := by decide +kernel
theorem dX11_canBe_384 : decode cX11_canBe 384 = .ok (.if_icmp .ge 15, 3) := by decide +kernel
theorem dX11_canBe_387 : decode cX11_canBe 387 = .ok (.aload_n 0, 1) := by decide +kernel
theorem dX11_canBe_388 : decode cX11_canBe 388 = .ok (.getfield 122, 3) := by decide +kernel
theorem dX11_canBe_391 : decode cX11_canBe 391 = .ok (.iload_n 3, 1) := by decide +kernel
theorem dX11_canBe_392 : decode cX11_canBe 392 = .ok (.aaload, 1) := by decide +kernel
theorem dX11_canBe_393 : decode cX11_canBe 393 = .ok (.iload 4, 2) := by decide +kernel
theorem dX11_canBe_395 : decode cX11_canBe 395 = .ok (.iaload, 1) := by decide +kernel
theorem dX11_canBe_396 : decode cX11_canBe 396 = .ok (.goto 5, 3) := by decide +kernel
theorem dX11_canBe_399 : decode cX11_canBe 399 = .ok (.iload 5, 2) := by decide +kernel
theorem dX11_canBe_401 : decode cX11_canBe 401 = .ok (.iastore, 1) := by decide +kernel
theorem dX11_canBe_402 : decode cX11_canBe 402 = .ok (.iinc 4 1, 3) := by decide +kernel
theorem dX11_canBe_405 : decode cX11_canBe 405 = .ok (.goto (-104), 3) := by decide +kernel
theorem dX11_canBe_408 : decode cX11_canBe 408 = .ok (.iinc 3 1, 3) := by decide +kernel
theorem dX11_canBe_411 : decode cX11_canBe 411 = .ok (.goto (-121), 3) := by decide +kernel
theorem dX11_canBe_414 : decode cX11_canBe 414 = .ok (.iconst 0, 1) := by decide +kernel
theorem dX11_canBe_415 : decode cX11_canBe 415 = .ok (.istore_n 3, 1) := by decide +kernel
theorem dX11_canBe_416 : decode cX11_canBe 416 = .ok (.iload_n 3, 1) := by decide +kernel
theorem dX11_canBe_417 : decode cX11_canBe 417 = .ok (.aload_n 0, 1) := by decide +kernel
theorem dX11_canBe_418 : decode cX11_canBe 418 = .ok (.getfield 286, 3) := by decide +kernel
theorem dX11_canBe_421 : decode cX11_canBe 421 = .ok (.if_icmp .ge 22, 3) := by decide +kernel
theorem dX11_canBe_424 : decode cX11_canBe 424 = .ok (.aload_n 0, 1) := by decide +kernel
theorem dX11_canBe_425 : decode cX11_canBe 425 = .ok (.getfield 122, 3) := by decide +kernel
theorem dX11_canBe_428 : decode cX11_canBe 428 = .ok (.iload_n 3, 1) := by decide +kernel
theorem dX11_canBe_429 : decode cX11_canBe 429 = .ok (.aaload, 1) := by decide +kernel
theorem dX11_canBe_430 : decode cX11_canBe 430 = .ok (.iload_n 3, 1) := by decide +kernel
theorem dX11_canBe_431 : decode cX11_canBe 431 = .ok (.iaload, 1) := by decide +kernel
theorem dX11_canBe_432 : decode cX11_canBe 432 = .ok (.ifCond .ge 5, 3) := by decide +kernel
theorem dX11_canBe_435 : decode cX11_canBe 435 = .ok (.iconst 0, 1) := by decide +kernel
theorem dX11_canBe_436 : decode cX11_canBe 436 = .ok (.ireturn, 1) := by decide +kernel
theorem dX11_canBe_437 : decode cX11_canBe 437 = .ok (.iinc 3 1, 3) := by decide +kernel
theorem dX11_canBe_440 : decode cX11_canBe 440 = .ok (.goto (-24), 3) := by decide +kernel
theorem dX11_canBe_443 : decode cX11_canBe 443 = .ok (.iinc 2 1, 3) := by decide +kernel
theorem dX11_canBe_446 : decode cX11_canBe 446 = .ok (.goto (-166), 3) := by decide +kernel
theorem dX11_canBe_449 : decode cX11_canBe 449 = .ok (.iconst 1, 1) := by decide +kernel
theorem dX11_canBe_450 : decode cX11_canBe 450 = .ok (.ireturn, 1) := by decide +kernel
theorem dX11_canBe__0 : decode cX11_canBe_ 0 = .ok (.iconst 1, 1) := by decide +kernel
theorem dX11_canBe__1 : decode cX11_canBe_ 1 = .ok (.istore_n 1, 1) := by decide +kernel
theorem dX11_canBe__2 : decode cX11_canBe_ 2 = .ok (.iconst 0, 1) := by decide +kernel
theorem dX11_canBe__3 : decode cX11_canBe_ 3 = .ok (.istore_n 2, 1) := by decide +kernel
theorem dX11_canBe__4 : decode cX11_canBe_ 4 = .ok (.iload_n 2, 1) := by decide +kernel
theorem dX11_canBe__5 : decode cX11_canBe_ 5 = .ok (.bipush 6, 2) := by decide +kernel
theorem dX11_canBe__7 : decode cX11_canBe_ 7 = .ok (.if_icmp .ge 19, 3) := by decide +kernel
theorem dX11_canBe__10 : decode cX11_canBe_ 10 = .ok (.iload_n 1, 1) := by decide +kernel
theorem dX11_canBe__11 : decode cX11_canBe_ 11 = .ok (.ifCond .eq 15, 3) := by decide +kernel
theorem dX11_canBe__14 : decode cX11_canBe_ 14 = .ok (.aload_n 0, 1) := by decide +kernel
theorem dX11_canBe__15 : decode cX11_canBe_ 15 = .ok (.iload_n 2, 1) := by decide +kernel
theorem dX11_canBe__16 : decode cX11_canBe_ 16 = .ok (.invokevirtual 293, 3) := by decide +kernel
theorem dX11_canBe__19 : decode cX11_canBe_ 19 = .ok (.istore_n 1, 1) := by decide +kernel
theorem dX11_canBe__20 : decode cX11_canBe_ 20 = .ok (.iinc 2 1, 3) := by decide +kernel
theorem dX11_canBe__23 : decode cX11_canBe_ 23 = .ok (.goto (-19), 3) := by decide +kernel
theorem dX11_canBe__26 : decode cX11_canBe_ 26 = .ok (.iload_n 1, 1) := by decide +kernel
theorem dX11_canBe__27 : decode cX11_canBe_ 27 = .ok (.ireturn, 1) := by decide +kernel
theorem dX11_quarrel_0 : decode cX11_quarrel 0 = .ok (.iconst 0, 1) := by decide +kernel
theorem dX11_quarrel_1 : decode cX11_quarrel 1 = .ok (.istore_n 1, 1) := by decide +kernel
theorem dX11_quarrel_2 : decode cX11_quarrel 2 = .ok (.iload_n 1, 1) := by decide +kernel
theorem dX11_quarrel_3 : decode cX11_quarrel 3 = .ok (.bipush 20, 2) := by decide +kernel
theorem dX11_quarrel_5 : decode cX11_quarrel 5 = .ok (.if_icmp .ge 28, 3) := by decide +kernel
theorem dX11_quarrel_8 : decode cX11_quarrel 8 = .ok (.aload_n 0, 1) := by decide +kernel
theorem dX11_quarrel_9 : decode cX11_quarrel 9 = .ok (.getfield 114, 3) := by decide +kernel
theorem dX11_quarrel_12 : decode cX11_quarrel 12 = .ok (.iload_n 1, 1) := by decide +kernel
theorem dX11_quarrel_13 : decode cX11_quarrel 13 = .ok (.iload_n 1, 1) := by decide +kernel
theorem dX11_quarrel_14 : decode cX11_quarrel 14 = .ok (.aload_n 0, 1) := by decide +kernel
theorem dX11_quarrel_15 : decode cX11_quarrel 15 = .ok (.getfield 283, 3) := by decide +kernel
theorem dX11_quarrel_18 : decode cX11_quarrel 18 = .ok (.if_icmp .ge 7, 3) := by decide +kernel
theorem dX11_quarrel_21 : decode cX11_quarrel 21 = .ok (.iconst 1, 1) := by decide +kernel
theorem dX11_quarrel_22 : decode cX11_quarrel 22 = .ok (.goto 4, 3) := by decide +kernel
theorem dX11_quarrel_25 : decode cX11_quarrel 25 = .ok (.iconst 0, 1) := by decide +kernel
theorem dX11_quarrel_26 : decode cX11_quarrel 26 = .ok (.bastore, 1) := by decide +kernel
theorem dX11_quarrel_27 : decode cX11_quarrel 27 = .ok (.iinc 1 1, 3) := by decide +kernel
theorem dX11_quarrel_30 : decode cX11_quarrel 30 = .ok (.goto (-28), 3) := by decide +kernel
theorem dX11_quarrel_33 : decode cX11_quarrel 33 = .ok (.aload_n 0, 1) := by decide +kernel
theorem dX11_quarrel_34 : decode cX11_quarrel 34 = .ok (.invokevirtual 296, 3) := by decide +kernel
theorem dX11_quarrel_37 : decode cX11_quarrel 37 = .ok (.ifCond .eq 5, 3) := by decide +kernel
theorem dX11_quarrel_40 : decode cX11_quarrel 40 = .ok (.iconst 0, 1) := by decide +kernel
theorem dX11_quarrel_41 : decode cX11_quarrel 41 = .ok (.ireturn, 1) := by decide +kernel
theorem dX11_quarrel_42 : decode cX11_quarrel 42 = .ok (.aload_n 0, 1) := by decide +kernel
theorem dX11_quarrel_43 : decode cX11_quarrel 43 = .ok (.getfield 283, 3) := by decide +kernel
theorem dX11_quarrel_46 : decode cX11_quarrel 46 = .ok (.istore_n 1, 1) := by decide +kernel
theorem dX11_quarrel_47 : decode cX11_quarrel 47 = .ok (.aload_n 0, 1) := by decide +kernel
theorem dX11_quarrel_48 : decode cX11_quarrel 48 = .ok (.getfield 283, 3) := by decide +kernel
theorem dX11_quarrel_51 : decode cX11_quarrel 51 = .ok (.iconst 1, 1) := by decide +kernel
theorem dX11_quarrel_52 : decode cX11_quarrel 52 = .ok (.isub, 1) := by decide +kernel
theorem dX11_quarrel_53 : decode cX11_quarrel 53 = .ok (.istore_n 2, 1) := by decide +kernel
theorem dX11_quarrel_54 : decode cX11_quarrel 54 = .ok (.iload_n 2, 1) := by decide +kernel
theorem dX11_quarrel_55 : decode cX11_quarrel 55 = .ok (.ifCond .lt 36, 3) := by decide +kernel
theorem dX11_quarrel_58 : decode cX11_quarrel 58 = .ok (.aload_n 0, 1) := by decide +kernel
theorem dX11_quarrel_59 : decode cX11_quarrel 59 = .ok (.getfield 114, 3) := by decide +kernel
theorem dX11_quarrel_62 : decode cX11_quarrel 62 = .ok (.iload_n 2, 1) := by decide +kernel
theorem dX11_quarrel_63 : decode cX11_quarrel 63 = .ok (.iconst 0, 1) := by decide +kernel
theorem dX11_quarrel_64 : decode cX11_quarrel 64 = .ok (.bastore, 1) := by decide +kernel
theorem dX11_quarrel_65 : decode cX11_quarrel 65 = .ok (.aload_n 0, 1) := by decide +kernel
theorem dX11_quarrel_66 : decode cX11_quarrel 66 = .ok (.invokevirtual 296, 3) := by decide +kernel
theorem dX11_quarrel_69 : decode cX11_quarrel 69 = .ok (.ifCond .eq 13, 3) := by decide +kernel
theorem dX11_quarrel_72 : decode cX11_quarrel 72 = .ok (.aload_n 0, 1) := by decide +kernel
theorem dX11_quarrel_73 : decode cX11_quarrel 73 = .ok (.getfield 114, 3) := by decide +kernel
theorem dX11_quarrel_76 : decode cX11_quarrel 76 = .ok (.iload_n 2, 1) := by decide +kernel
theorem dX11_quarrel_77 : decode cX11_quarrel 77 = .ok (.iconst 1, 1) := by decide +kernel
theorem dX11_quarrel_78 : decode cX11_quarrel 78 = .ok (.bastore, 1) := by decide +kernel
theorem dX11_quarrel_79 : decode cX11_quarrel 79 = .ok (.goto 6, 3) := by decide +kernel
theorem dX11_quarrel_82 : decode cX11_quarrel 82 = .ok (.iinc 1 (-1), 3) := by decide +kernel
theorem dX11_quarrel_85 : decode cX11_quarrel 85 = .ok (.iinc 2 (-1), 3) := by decide +kernel
theorem dX11_quarrel_88 : decode cX11_quarrel 88 = .ok (.goto (-34), 3) := by decide +kernel
theorem dX11_quarrel_91 : decode cX11_quarrel 91 = .ok (.iload_n 1, 1) := by decide +kernel
theorem dX11_quarrel_92 : decode cX11_quarrel 92 = .ok (.ireturn, 1) := by decide +kernel
theorem dX11_quarrels_0 : decode cX11_quarrels 0 = .ok (.aload_n 0, 1) := by decide +kernel
theorem dX11_quarrels_1 : decode cX11_quarrels 1 = .ok (.invokevirtual 298, 3) := by decide +kernel
theorem dX11_quarrels_4 : decode cX11_quarrels 4 = .ok (.istore_n 2, 1) := by decide +kernel
theorem dX11_quarrels_5 : decode cX11_quarrels 5 = .ok (.iload_n 1, 1) := by decide +kernel
theorem dX11_quarrels_6 : decode cX11_quarrels 6 = .ok (.istore_n 3, 1) := by decide +kernel
theorem dX11_quarrels_7 : decode cX11_quarrels 7 = .ok (.iconst 0, 1) := by decide +kernel
theorem dX11_quarrels_8 : decode cX11_quarrels 8 = .ok (.istore 4, 2) := by decide +kernel
theorem dX11_quarrels_10 : decode cX11_quarrels 10 = .ok (.iload 4, 2) := by decide +kernel
theorem dX11_quarrels_12 : decode cX11_quarrels 12 = .ok (.aload_n 0, 1) := by decide +kernel
theorem dX11_quarrels_13 : decode cX11_quarrels 13 = .ok (.getfield 283, 3) := by decide +kernel
theorem dX11_quarrels_16 : decode cX11_quarrels 16 = .ok (.if_icmp .ge 40, 3) := by decide +kernel
theorem dX11_quarrels_19 : decode cX11_quarrels 19 = .ok (.iload_n 1, 1) := by decide +kernel
theorem dX11_quarrels_20 : decode cX11_quarrels 20 = .ok (.iconst 0, 1) := by decide +kernel
theorem dX11_quarrels_21 : decode cX11_quarrels 21 = .ok (.iload_n 2, 1) := by decide +kernel
theorem dX11_quarrels_22 : decode cX11_quarrels 22 = .ok (.iconst 1, 1) := by decide +kernel
theorem dX11_quarrels_23 : decode cX11_quarrels 23 = .ok (.isub, 1) := by decide +kernel
theorem dX11_quarrels_24 : decode cX11_quarrels 24 = .ok (.invokestatic 139, 3) := by decide +kernel
theorem dX11_quarrels_27 : decode cX11_quarrels 27 = .ok (.ifCond .eq 29, 3) := by decide +kernel
theorem dX11_quarrels_30 : decode cX11_quarrels 30 = .ok (.aload_n 0, 1) := by decide +kernel
theorem dX11_quarrels_31 : decode cX11_quarrels 31 = .ok (.getfield 114, 3) := by decide +kernel
theorem dX11_quarrels_34 : decode cX11_quarrels 34 = .ok (.iload 4, 2) := by decide +kernel
theorem dX11_quarrels_36 : decode cX11_quarrels 36 = .ok (.baload, 1) := by decide +kernel
theorem dX11_quarrels_37 : decode cX11_quarrels 37 = .ok (.ifCond .eq 13, 3) := by decide +kernel
theorem dX11_quarrels_40 : decode cX11_quarrels 40 = .ok (.iload_n 3, 1) := by decide +kernel
theorem dX11_quarrels_41 : decode cX11_quarrels 41 = .ok (.ifCond .ne 6, 3) := by decide +kernel
theorem dX11_quarrels_44 : decode cX11_quarrels 44 = .ok (.iload 4, 2) := by decide +kernel
theorem dX11_quarrels_46 : decode cX11_quarrels 46 = .ok (.ireturn, 1) := by decide +kernel
theorem dX11_quarrels_47 : decode cX11_quarrels 47 = .ok (.iinc 3 (-1), 3) := by decide +kernel
theorem dX11_quarrels_50 : decode cX11_quarrels 50 = .ok (.iinc 4 1, 3) := by decide +kernel
theorem dX11_quarrels_53 : decode cX11_quarrels 53 = .ok (.goto (-43), 3) := by decide +kernel
theorem dX11_quarrels_56 : decode cX11_quarrels 56 = .ok (.iconst (-1), 1) := by decide +kernel
theorem dX11_quarrels_57 : decode cX11_quarrels 57 = .ok (.ireturn, 1) := by decide +kernel
theorem dX11_count_0 : decode cX11_count 0 = .ok (.iconst 0, 1) := by decide +kernel
theorem dX11_count_1 : decode cX11_count 1 = .ok (.istore_n 2, 1) := by decide +kernel
theorem dX11_count_2 : decode cX11_count 2 = .ok (.iload_n 1, 1) := by decide +kernel
theorem dX11_count_3 : decode cX11_count 3 = .ok (.bipush 20, 2) := by decide +kernel
theorem dX11_count_5 : decode cX11_count 5 = .ok (.bipush 28, 2) := by decide +kernel
theorem dX11_count_7 : decode cX11_count 7 = .ok (.invokestatic 139, 3) := by decide +kernel
theorem dX11_count_10 : decode cX11_count 10 = .ok (.ifCond .eq 13, 3) := by decide +kernel
theorem dX11_count_13 : decode cX11_count 13 = .ok (.aload_n 0, 1) := by decide +kernel
theorem dX11_count_14 : decode cX11_count 14 = .ok (.getfield 44, 3) := by decide +kernel
theorem dX11_count_17 : decode cX11_count 17 = .ok (.iload_n 1, 1) := by decide +kernel
theorem dX11_count_18 : decode cX11_count 18 = .ok (.bipush 20, 2) := by decide +kernel
theorem dX11_count_20 : decode cX11_count 20 = .ok (.isub, 1) := by decide +kernel
theorem dX11_count_21 : decode cX11_count 21 = .ok (.iaload, 1) := by decide +kernel
theorem dX11_count_22 : decode cX11_count 22 = .ok (.ireturn, 1) := by decide +kernel
theorem dX11_count_23 : decode cX11_count 23 = .ok (.iload_n 1, 1) := by decide +kernel
theorem dX11_count_24 : decode cX11_count 24 = .ok (.tableswitch 150 0 11 #[64, 69, 74, 79, 84, 89, 89, 125, 130, 135, 140, 145], 64) := by decide +kernel
theorem dX11_count_88 : decode cX11_count 88 = .ok (.aload_n 0, 1) := by decide +kernel
theorem dX11_count_89 : decode cX11_count 89 = .ok (.getfield 133, 3) := by decide +kernel
theorem dX11_count_92 : decode cX11_count 92 = .ok (.ireturn, 1) := by decide +kernel
theorem dX11_count_93 : decode cX11_count 93 = .ok (.aload_n 0, 1) := by decide +kernel
theorem dX11_count_94 : decode cX11_count 94 = .ok (.getfield 136, 3) := by decide +kernel
theorem dX11_count_97 : decode cX11_count 97 = .ok (.ireturn, 1) := by decide +kernel
theorem dX11_count_98 : decode cX11_count 98 = .ok (.aload_n 0, 1) := by decide +kernel
theorem dX11_count_99 : decode cX11_count 99 = .ok (.getfield 216, 3) := by decide +kernel
theorem dX11_count_102 : decode cX11_count 102 = .ok (.ireturn, 1) := by decide +kernel
theorem dX11_count_103 : decode cX11_count 103 = .ok (.aload_n 0, 1) := by decide +kernel
theorem dX11_count_104 : decode cX11_count 104 = .ok (.getfield 243, 3) := by decide +kernel
theorem dX11_count_107 : decode cX11_count 107 = .ok (.ireturn, 1) := by decide +kernel
theorem dX11_count_108 : decode cX11_count 108 = .ok (.aload_n 0, 1) := by decide +kernel
theorem dX11_count_109 : decode cX11_count 109 = .ok (.getfield 233, 3) := by decide +kernel
theorem dX11_count_112 : decode cX11_count 112 = .ok (.ireturn, 1) := by decide +kernel
theorem dX11_count_113 : decode cX11_count 113 = .ok (.iconst 0, 1) := by decide +kernel
theorem dX11_count_114 : decode cX11_count 114 = .ok (.istore_n 3, 1) := by decide +kernel
theorem dX11_count_115 : decode cX11_count 115 = .ok (.iload_n 3, 1) := by decide +kernel
theorem dX11_count_116 : decode cX11_count 116 = .ok (.aload_n 0, 1) := by decide +kernel
theorem dX11_count_117 : decode cX11_count 117 = .ok (.getfield 216, 3) := by decide +kernel
theorem dX11_count_120 : decode cX11_count 120 = .ok (.if_icmp .ge 27, 3) := by decide +kernel
theorem dX11_count_123 : decode cX11_count 123 = .ok (.iload_n 2, 1) := by decide +kernel
theorem dX11_count_124 : decode cX11_count 124 = .ok (.aload_n 0, 1) := by decide +kernel
theorem dX11_count_125 : decode cX11_count 125 = .ok (.getfield 60, 3) := by decide +kernel
theorem dX11_count_128 : decode cX11_count 128 = .ok (.iload_n 3, 1) := by decide +kernel
theorem dX11_count_129 : decode cX11_count 129 = .ok (.iaload, 1) := by decide +kernel
theorem dX11_count_130 : decode cX11_count 130 = .ok (.iload_n 1, 1) := by decide +kernel
theorem dX11_count_131 : decode cX11_count 131 = .ok (.if_icmp .ne 7, 3) := by decide +kernel
theorem dX11_count_134 : decode cX11_count 134 = .ok (.iconst 1, 1) := by decide +kernel
theorem dX11_count_135 : decode cX11_count 135 = .ok (.goto 4, 3) := by decide +kernel
theorem dX11_count_138 : decode cX11_count 138 = .ok (.iconst 0, 1) := by decide +kernel
theorem dX11_count_139 : decode cX11_count 139 = .ok (.iadd, 1) := by decide +kernel
theorem dX11_count_140 : decode cX11_count 140 = .ok (.istore_n 2, 1) := by decide +kernel
theorem dX11_count_141 : decode cX11_count 141 = .ok (.iinc 3 1, 3) := by decide +kernel
theorem dX11_count_144 : decode cX11_count 144 = .ok (.goto (-29), 3) := by decide +kernel
theorem dX11_count_147 : decode cX11_count 147 = .ok (.iload_n 2, 1) := by decide +kernel
theorem dX11_count_148 : decode cX11_count 148 = .ok (.ireturn, 1) := by decide +kernel
theorem dX11_count_149 : decode cX11_count 149 = .ok (.aload_n 0, 1) := by decide +kernel
theorem dX11_count_150 : decode cX11_count 150 = .ok (.getfield 143, 3) := by decide +kernel
theorem dX11_count_153 : decode cX11_count 153 = .ok (.ireturn, 1) := by decide +kernel
theorem dX11_count_154 : decode cX11_count 154 = .ok (.aload_n 0, 1) := by decide +kernel
theorem dX11_count_155 : decode cX11_count 155 = .ok (.getfield 147, 3) := by decide +kernel
theorem dX11_count_158 : decode cX11_count 158 = .ok (.ireturn, 1) := by decide +kernel
theorem dX11_count_159 : decode cX11_count 159 = .ok (.aload_n 0, 1) := by decide +kernel
theorem dX11_count_160 : decode cX11_count 160 = .ok (.getfield 166, 3) := by decide +kernel
theorem dX11_count_163 : decode cX11_count 163 = .ok (.ireturn, 1) := by decide +kernel
theorem dX11_count_164 : decode cX11_count 164 = .ok (.aload_n 0, 1) := by decide +kernel
theorem dX11_count_165 : decode cX11_count 165 = .ok (.getfield 283, 3) := by decide +kernel
theorem dX11_count_168 : decode cX11_count 168 = .ok (.ireturn, 1) := by decide +kernel
theorem dX11_count_169 : decode cX11_count 169 = .ok (.aload_n 0, 1) := by decide +kernel
theorem dX11_count_170 : decode cX11_count 170 = .ok (.getfield 250, 3) := by decide +kernel
theorem dX11_count_173 : decode cX11_count 173 = .ok (.ireturn, 1) := by decide +kernel
theorem dX11_count_174 : decode cX11_count 174 = .ok (.iconst (-1), 1) := by decide +kernel
theorem dX11_count_175 : decode cX11_count 175 = .ok (.ireturn, 1) := by decide +kernel
