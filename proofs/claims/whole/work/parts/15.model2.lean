theorem dX9_clearReceived_0 : decode cX9_clearReceived 0 = .ok (.aload_n 0, 1) := by decide +kernel
theorem dX9_clearReceived_1 : decode cX9_clearReceived 1 = .ok (.iconst 0, 1) := by decide +kernel
theorem dX9_clearReceived_2 : decode cX9_clearReceived 2 = .ok (.putfield 70, 3) := by decide +kernel
theorem dX9_clearReceived_5 : decode cX9_clearReceived 5 = .ok (.aload_n 0, 1) := by decide +kernel
theorem dX9_clearReceived_6 : decode cX9_clearReceived 6 = .ok (.iconst 0, 1) := by decide +kernel
theorem dX9_clearReceived_7 : decode cX9_clearReceived 7 = .ok (.putfield 82, 3) := by decide +kernel
theorem dX9_clearReceived_10 : decode cX9_clearReceived 10 = .ok (.aload_n 0, 1) := by decide +kernel
theorem dX9_clearReceived_11 : decode cX9_clearReceived 11 = .ok (.iconst 0, 1) := by decide +kernel
theorem dX9_clearReceived_12 : decode cX9_clearReceived 12 = .ok (.putfield 85, 3) := by decide +kernel
theorem dX9_clearReceived_15 : decode cX9_clearReceived 15 = .ok (.return_, 1) := by decide +kernel
theorem dX9_write_0 : decode cX9_write 0 = .ok (.aload_n 0, 1) := by decide +kernel
theorem dX9_write_1 : decode cX9_write 1 = .ok (.iconst 0, 1) := by decide +kernel
theorem dX9_write_2 : decode cX9_write 2 = .ok (.putfield 35, 3) := by decide +kernel
theorem dX9_write_5 : decode cX9_write 5 = .ok (.iload_n 1, 1) := by decide +kernel
theorem dX9_write_6 : decode cX9_write 6 = .ok (.ifCond .lt 9, 3) := by decide +kernel
theorem dX9_write_9 : decode cX9_write 9 = .ok (.iload_n 1, 1) := by decide +kernel
theorem dX9_write_10 : decode cX9_write 10 = .ok (.bipush 7, 2) := by decide +kernel
theorem dX9_write_12 : decode cX9_write 12 = .ok (.if_icmp .le 9, 3) := by decide +kernel
theorem dX9_write_15 : decode cX9_write 15 = .ok (.aload_n 0, 1) := by decide +kernel
theorem dX9_write_16 : decode cX9_write 16 = .ok (.iconst 1, 1) := by decide +kernel
theorem dX9_write_17 : decode cX9_write 17 = .ok (.putfield 35, 3) := by decide +kernel
theorem dX9_write_20 : decode cX9_write 20 = .ok (.return_, 1) := by decide +kernel
theorem dX9_write_21 : decode cX9_write 21 = .ok (.iload_n 2, 1) := by decide +kernel
theorem dX9_write_22 : decode cX9_write 22 = .ok (.sipush 255, 3) := by decide +kernel
theorem dX9_write_25 : decode cX9_write 25 = .ok (.iand, 1) := by decide +kernel
theorem dX9_write_26 : decode cX9_write 26 = .ok (.istore_n 3, 1) := by decide +kernel
theorem dX9_write_27 : decode cX9_write 27 = .ok (.aload_n 0, 1) := by decide +kernel
theorem dX9_write_28 : decode cX9_write 28 = .ok (.invokevirtual 139, 3) := by decide +kernel
theorem dX9_write_31 : decode cX9_write 31 = .ok (.istore 4, 2) := by decide +kernel
theorem dX9_write_33 : decode cX9_write 33 = .ok (.iload_n 1, 1) := by decide +kernel
theorem dX9_write_34 : decode cX9_write 34 = .ok (.tableswitch 341 0 7 #[46, 130, 200, 308, 316, 341, 341, 333], 46) := by decide +kernel
theorem dX9_write_80 : decode cX9_write 80 = .ok (.aload_n 0, 1) := by decide +kernel
theorem dX9_write_81 : decode cX9_write 81 = .ok (.invokevirtual 147, 3) := by decide +kernel
theorem dX9_write_84 : decode cX9_write 84 = .ok (.ifCond .eq 24, 3) := by decide +kernel
theorem dX9_write_87 : decode cX9_write 87 = .ok (.aload_n 0, 1) := by decide +kernel
theorem dX9_write_88 : decode cX9_write 88 = .ok (.aload_n 0, 1) := by decide +kernel
theorem dX9_write_89 : decode cX9_write 89 = .ok (.getfield 39, 3) := by decide +kernel
theorem dX9_write_92 : decode cX9_write 92 = .ok (.ldc 150, 2) := by decide +kernel
theorem dX9_write_94 : decode cX9_write 94 = .ok (.iand, 1) := by decide +kernel
theorem dX9_write_95 : decode cX9_write 95 = .ok (.iload_n 3, 1) := by decide +kernel
theorem dX9_write_96 : decode cX9_write 96 = .ok (.ior, 1) := by decide +kernel
theorem dX9_write_97 : decode cX9_write 97 = .ok (.putfield 39, 3) := by decide +kernel
theorem dX9_write_100 : decode cX9_write 100 = .ok (.aload_n 0, 1) := by decide +kernel
theorem dX9_write_101 : decode cX9_write 101 = .ok (.iconst 0, 1) := by decide +kernel
theorem dX9_write_102 : decode cX9_write 102 = .ok (.putfield 42, 3) := by decide +kernel
theorem dX9_write_105 : decode cX9_write 105 = .ok (.goto 270, 3) := by decide +kernel
theorem dX9_write_108 : decode cX9_write 108 = .ok (.aload_n 0, 1) := by decide +kernel
theorem dX9_write_109 : decode cX9_write 109 = .ok (.iconst 0, 1) := by decide +kernel
theorem dX9_write_110 : decode cX9_write 110 = .ok (.putfield 79, 3) := by decide +kernel
theorem dX9_write_113 : decode cX9_write 113 = .ok (.aload_n 0, 1) := by decide +kernel
theorem dX9_write_114 : decode cX9_write 114 = .ok (.getfield 76, 3) := by decide +kernel
theorem dX9_write_117 : decode cX9_write 117 = .ok (.aload_n 0, 1) := by decide +kernel
theorem dX9_write_118 : decode cX9_write 118 = .ok (.invokevirtual 151, 3) := by decide +kernel
theorem dX9_write_121 : decode cX9_write 121 = .ok (.if_icmp .ge 26, 3) := by decide +kernel
theorem dX9_write_124 : decode cX9_write 124 = .ok (.aload_n 0, 1) := by decide +kernel
theorem dX9_write_125 : decode cX9_write 125 = .ok (.getfield 16, 3) := by decide +kernel
theorem dX9_write_128 : decode cX9_write 128 = .ok (.aload_n 0, 1) := by decide +kernel
theorem dX9_write_129 : decode cX9_write 129 = .ok (.getfield 76, 3) := by decide +kernel
theorem dX9_write_132 : decode cX9_write 132 = .ok (.iload_n 3, 1) := by decide +kernel
theorem dX9_write_133 : decode cX9_write 133 = .ok (.iastore, 1) := by decide +kernel
theorem dX9_write_134 : decode cX9_write 134 = .ok (.aload_n 0, 1) := by decide +kernel
theorem dX9_write_135 : decode cX9_write 135 = .ok (.dup, 1) := by decide +kernel
theorem dX9_write_136 : decode cX9_write 136 = .ok (.getfield 76, 3) := by decide +kernel
theorem dX9_write_139 : decode cX9_write 139 = .ok (.iconst 1, 1) := by decide +kernel
theorem dX9_write_140 : decode cX9_write 140 = .ok (.iadd, 1) := by decide +kernel
theorem dX9_write_141 : decode cX9_write 141 = .ok (.putfield 76, 3) := by decide +kernel
theorem dX9_write_144 : decode cX9_write 144 = .ok (.goto 231, 3) := by decide +kernel
theorem dX9_write_147 : decode cX9_write 147 = .ok (.aload_n 0, 1) := by decide +kernel
theorem dX9_write_148 : decode cX9_write 148 = .ok (.getfield 48, 3) := by decide +kernel
theorem dX9_write_151 : decode cX9_write 151 = .ok (.ifCond .ne 224, 3) := by decide +kernel
theorem dX9_write_154 : decode cX9_write 154 = .ok (.aload_n 0, 1) := by decide +kernel
theorem dX9_write_155 : decode cX9_write 155 = .ok (.getfield 16, 3) := by decide +kernel
theorem dX9_write_158 : decode cX9_write 158 = .ok (.iconst 0, 1) := by decide +kernel
theorem dX9_write_159 : decode cX9_write 159 = .ok (.iload_n 3, 1) := by decide +kernel
theorem dX9_write_160 : decode cX9_write 160 = .ok (.iastore, 1) := by decide +kernel
theorem dX9_write_161 : decode cX9_write 161 = .ok (.goto 214, 3) := by decide +kernel
theorem dX9_write_164 : decode cX9_write 164 = .ok (.aload_n 0, 1) := by decide +kernel
theorem dX9_write_165 : decode cX9_write 165 = .ok (.invokevirtual 147, 3) := by decide +kernel
theorem dX9_write_168 : decode cX9_write 168 = .ok (.ifCond .eq 28, 3) := by decide +kernel
theorem dX9_write_171 : decode cX9_write 171 = .ok (.aload_n 0, 1) := by decide +kernel
theorem dX9_write_172 : decode cX9_write 172 = .ok (.aload_n 0, 1) := by decide +kernel
theorem dX9_write_173 : decode cX9_write 173 = .ok (.getfield 39, 3) := by decide +kernel
theorem dX9_write_176 : decode cX9_write 176 = .ok (.sipush 255, 3) := by decide +kernel
theorem dX9_write_179 : decode cX9_write 179 = .ok (.iand, 1) := by decide +kernel
theorem dX9_write_180 : decode cX9_write 180 = .ok (.iload_n 3, 1) := by decide +kernel
theorem dX9_write_181 : decode cX9_write 181 = .ok (.bipush 8, 2) := by decide +kernel
theorem dX9_write_183 : decode cX9_write 183 = .ok (.ishl, 1) := by decide +kernel
theorem dX9_write_184 : decode cX9_write 184 = .ok (.ior, 1) := by decide +kernel
theorem dX9_write_185 : decode cX9_write 185 = .ok (.putfield 39, 3) := by decide +kernel
theorem dX9_write_188 : decode cX9_write 188 = .ok (.aload_n 0, 1) := by decide +kernel
theorem dX9_write_189 : decode cX9_write 189 = .ok (.iconst 0, 1) := by decide +kernel
theorem dX9_write_190 : decode cX9_write 190 = .ok (.putfield 42, 3) := by decide +kernel
theorem dX9_write_193 : decode cX9_write 193 = .ok (.goto 182, 3) := by decide +kernel
theorem dX9_write_196 : decode cX9_write 196 = .ok (.iload_n 3, 1) := by decide +kernel
theorem dX9_write_197 : decode cX9_write 197 = .ok (.iconst 2, 1) := by decide +kernel
theorem dX9_write_198 : decode cX9_write 198 = .ok (.iand, 1) := by decide +kernel
theorem dX9_write_199 : decode cX9_write 199 = .ok (.ifCond .eq 24, 3) := by decide +kernel
theorem dX9_write_202 : decode cX9_write 202 = .ok (.aload_n 0, 1) := by decide +kernel
theorem dX9_write_203 : decode cX9_write 203 = .ok (.getfield 45, 3) := by decide +kernel
theorem dX9_write_206 : decode cX9_write 206 = .ok (.iconst 2, 1) := by decide +kernel
theorem dX9_write_207 : decode cX9_write 207 = .ok (.iand, 1) := by decide +kernel
theorem dX9_write_208 : decode cX9_write 208 = .ok (.ifCond .ne 15, 3) := by decide +kernel
theorem dX9_write_211 : decode cX9_write 211 = .ok (.aload_n 0, 1) := by decide +kernel
theorem dX9_write_212 : decode cX9_write 212 = .ok (.getfield 76, 3) := by decide +kernel
theorem dX9_write_215 : decode cX9_write 215 = .ok (.ifCond .ne 8, 3) := by decide +kernel
theorem dX9_write_218 : decode cX9_write 218 = .ok (.aload_n 0, 1) := by decide +kernel
theorem dX9_write_219 : decode cX9_write 219 = .ok (.iconst 1, 1) := by decide +kernel
theorem dX9_write_220 : decode cX9_write 220 = .ok (.putfield 79, 3) := by decide +kernel
theorem dX9_write_223 : decode cX9_write 223 = .ok (.aload_n 0, 1) := by decide +kernel
theorem dX9_write_224 : decode cX9_write 224 = .ok (.iload_n 3, 1) := by decide +kernel
theorem dX9_write_225 : decode cX9_write 225 = .ok (.bipush 15, 2) := by decide +kernel
theorem dX9_write_227 : decode cX9_write 227 = .ok (.iand, 1) := by decide +kernel
theorem dX9_write_228 : decode cX9_write 228 = .ok (.putfield 45, 3) := by decide +kernel
theorem dX9_write_231 : decode cX9_write 231 = .ok (.goto 144, 3) := by decide +kernel
theorem dX9_write_234 : decode cX9_write 234 = .ok (.iload_n 3, 1) := by decide +kernel
theorem dX9_write_235 : decode cX9_write 235 = .ok (.iconst 1, 1) := by decide +kernel
theorem dX9_write_236 : decode cX9_write 236 = .ok (.iand, 1) := by decide +kernel
theorem dX9_write_237 : decode cX9_write 237 = .ok (.ifCond .eq 7, 3) := by decide +kernel
theorem dX9_write_240 : decode cX9_write 240 = .ok (.iconst 1, 1) := by decide +kernel
theorem dX9_write_241 : decode cX9_write 241 = .ok (.goto 4, 3) := by decide +kernel
theorem dX9_write_244 : decode cX9_write 244 = .ok (.iconst 0, 1) := by decide +kernel
theorem dX9_write_245 : decode cX9_write 245 = .ok (.istore 5, 2) := by decide +kernel
theorem dX9_write_247 : decode cX9_write 247 = .ok (.iload 5, 2) := by decide +kernel
theorem dX9_write_249 : decode cX9_write 249 = .ok (.aload_n 0, 1) := by decide +kernel
theorem dX9_write_250 : decode cX9_write 250 = .ok (.getfield 48, 3) := by decide +kernel
theorem dX9_write_253 : decode cX9_write 253 = .ok (.if_icmp .eq 18, 3) := by decide +kernel
theorem dX9_write_256 : decode cX9_write 256 = .ok (.aload_n 0, 1) := by decide +kernel
theorem dX9_write_257 : decode cX9_write 257 = .ok (.iload 5, 2) := by decide +kernel
theorem dX9_write_259 : decode cX9_write 259 = .ok (.putfield 48, 3) := by decide +kernel
theorem dX9_write_262 : decode cX9_write 262 = .ok (.aload_n 0, 1) := by decide +kernel
theorem dX9_write_263 : decode cX9_write 263 = .ok (.invokevirtual 154, 3) := by decide +kernel
theorem dX9_write_266 : decode cX9_write 266 = .ok (.aload_n 0, 1) := by decide +kernel
theorem dX9_write_267 : decode cX9_write 267 = .ok (.iconst 0, 1) := by decide +kernel
theorem dX9_write_268 : decode cX9_write 268 = .ok (.putfield 76, 3) := by decide +kernel
theorem dX9_write_271 : decode cX9_write 271 = .ok (.iload 5, 2) := by decide +kernel
theorem dX9_write_273 : decode cX9_write 273 = .ok (.ifCond .eq 102, 3) := by decide +kernel
theorem dX9_write_276 : decode cX9_write 276 = .ok (.iload_n 3, 1) := by decide +kernel
theorem dX9_write_277 : decode cX9_write 277 = .ok (.iconst 2, 1) := by decide +kernel
theorem dX9_write_278 : decode cX9_write 278 = .ok (.iand, 1) := by decide +kernel
theorem dX9_write_279 : decode cX9_write 279 = .ok (.ifCond .eq 7, 3) := by decide +kernel
theorem dX9_write_282 : decode cX9_write 282 = .ok (.aload_n 0, 1) := by decide +kernel
theorem dX9_write_283 : decode cX9_write 283 = .ok (.invokevirtual 154, 3) := by decide +kernel
theorem dX9_write_286 : decode cX9_write 286 = .ok (.iload_n 3, 1) := by decide +kernel
theorem dX9_write_287 : decode cX9_write 287 = .ok (.iconst 4, 1) := by decide +kernel
theorem dX9_write_288 : decode cX9_write 288 = .ok (.iand, 1) := by decide +kernel
theorem dX9_write_289 : decode cX9_write 289 = .ok (.ifCond .eq 8, 3) := by decide +kernel
theorem dX9_write_292 : decode cX9_write 292 = .ok (.aload_n 0, 1) := by decide +kernel
theorem dX9_write_293 : decode cX9_write 293 = .ok (.iconst 0, 1) := by decide +kernel
theorem dX9_write_294 : decode cX9_write 294 = .ok (.putfield 76, 3) := by decide +kernel
theorem dX9_write_297 : decode cX9_write 297 = .ok (.iload_n 3, 1) := by decide +kernel
theorem dX9_write_298 : decode cX9_write 298 = .ok (.bipush 6, 2) := by decide +kernel
theorem dX9_write_300 : decode cX9_write 300 = .ok (.ishr, 1) := by decide +kernel
theorem dX9_write_301 : decode cX9_write 301 = .ok (.istore 6, 2) := by decide +kernel
theorem dX9_write_303 : decode cX9_write 303 = .ok (.aload_n 0, 1) := by decide +kernel
theorem dX9_write_304 : decode cX9_write 304 = .ok (.iload 6, 2) := by decide +kernel
theorem dX9_write_306 : decode cX9_write 306 = .ok (.ifCond .ne 7, 3) := by decide +kernel
theorem dX9_write_309 : decode cX9_write 309 = .ok (.iconst 1, 1) := by decide +kernel
theorem dX9_write_310 : decode cX9_write 310 = .ok (.goto 26, 3) := by decide +kernel
theorem dX9_write_313 : decode cX9_write 313 = .ok (.iload 6, 2) := by decide +kernel
theorem dX9_write_315 : decode cX9_write 315 = .ok (.iconst 1, 1) := by decide +kernel
theorem dX9_write_316 : decode cX9_write 316 = .ok (.if_icmp .ne 7, 3) := by decide +kernel
theorem dX9_write_319 : decode cX9_write 319 = .ok (.iconst 4, 1) := by decide +kernel
theorem dX9_write_320 : decode cX9_write 320 = .ok (.goto 16, 3) := by decide +kernel
theorem dX9_write_323 : decode cX9_write 323 = .ok (.iload 6, 2) := by decide +kernel
theorem dX9_write_325 : decode cX9_write 325 = .ok (.iconst 2, 1) := by decide +kernel
theorem dX9_write_326 : decode cX9_write 326 = .ok (.if_icmp .ne 8, 3) := by decide +kernel
theorem dX9_write_329 : decode cX9_write 329 = .ok (.bipush 8, 2) := by decide +kernel
theorem dX9_write_331 : decode cX9_write 331 = .ok (.goto 5, 3) := by decide +kernel
theorem dX9_write_334 : decode cX9_write 334 = .ok (.bipush 14, 2) := by decide +kernel
theorem dX9_write_336 : decode cX9_write 336 = .ok (.putfield 52, 3) := by decide +kernel
theorem dX9_write_339 : decode cX9_write 339 = .ok (.goto 36, 3) := by decide +kernel
theorem dX9_write_342 : decode cX9_write 342 = .ok (.aload_n 0, 1) := by decide +kernel
theorem dX9_write_343 : decode cX9_write 343 = .ok (.iload_n 3, 1) := by decide +kernel
theorem dX9_write_344 : decode cX9_write 344 = .ok (.putfield 55, 3) := by decide +kernel
theorem dX9_write_347 : decode cX9_write 347 = .ok (.goto 28, 3) := by decide +kernel
theorem dX9_write_350 : decode cX9_write 350 = .ok (.aload_n 0, 1) := by decide +kernel
theorem dX9_write_351 : decode cX9_write 351 = .ok (.iload_n 3, 1) := by decide +kernel
theorem dX9_write_352 : decode cX9_write 352 = .ok (.bipush 31, 2) := by decide +kernel
theorem dX9_write_354 : decode cX9_write 354 = .ok (.iand, 1) := by decide +kernel
theorem dX9_write_355 : decode cX9_write 355 = .ok (.putfield 58, 3) := by decide +kernel
theorem dX9_write_358 : decode cX9_write 358 = .ok (.aload_n 0, 1) := by decide +kernel
theorem dX9_write_359 : decode cX9_write 359 = .ok (.iload 4, 2) := by decide +kernel
theorem dX9_write_361 : decode cX9_write 361 = .ok (.invokevirtual 143, 3) := by decide +kernel
theorem dX9_write_364 : decode cX9_write 364 = .ok (.goto 11, 3) := by decide +kernel
theorem dX9_write_367 : decode cX9_write 367 = .ok (.aload_n 0, 1) := by decide +kernel
theorem dX9_write_368 : decode cX9_write 368 = .ok (.iload_n 3, 1) := by decide +kernel
theorem dX9_write_369 : decode cX9_write 369 = .ok (.putfield 61, 3) := by decide +kernel
theorem dX9_write_372 : decode cX9_write 372 = .ok (.goto 3, 3) := by decide +kernel
theorem dX9_write_375 : decode cX9_write 375 = .ok (.return_, 1) := by decide +kernel
set_option maxRecDepth 20000 in
theorem ggX9_write_X9_lines : GoodIn wsX9_write wsX9_lines := goodIn_r _ [18, 19, 12, 20, 21, 22, 17, 23, 44, 45, 46, 47, 48, 49, 50, 51, 52, 53, 54, 55, 56, 57, 58, 59, 60, 61, 62, 63, 64, 65, 66, 67, 68, 69, 70, 71, 72, 73, 74, 75, 76, 77, 78, 79, 80, 81, 82, 83] (by decide +kernel) (by decide +kernel)
set_option maxRecDepth 20000 in
theorem gX9_write_X9_lines : GoodIn wsX9_write (wsV RX9 139 RX9 yX9_lines wsX9_lines) := goodIn_app (goodIn_of _ (by decide +kernel)) ggX9_write_X9_lines
set_option maxRecDepth 20000 in
theorem ggX9_write_X9_dlab : GoodIn wsX9_write wsX9_dlab := goodIn_r _ [27, 11, 44, 45, 46, 47, 48, 49, 50, 51, 52, 53, 54, 55, 56, 57, 58, 59, 60, 61, 62, 63, 64, 65, 66, 67, 68, 69, 70, 71, 72, 73, 74, 75, 76, 77, 78, 79, 80, 81, 82, 83] (by decide +kernel) (by decide +kernel)
set_option maxRecDepth 20000 in
theorem gX9_write_X9_dlab : GoodIn wsX9_write (wsV RX9 147 RX9 yX9_dlab wsX9_dlab) := goodIn_app (goodIn_of _ (by decide +kernel)) ggX9_write_X9_dlab
set_option maxRecDepth 20000 in
theorem ggX9_write_X9_room : GoodIn wsX9_write wsX9_room := goodIn_r _ [31, 8, 44, 45, 46, 47, 48, 49, 50, 51, 52, 53, 54, 55, 56, 57, 58, 59, 60, 61, 62, 63, 64, 65, 66, 67, 68, 69, 70, 71, 72, 73, 74, 75, 76, 77, 78, 79, 80, 81, 82, 83] (by decide +kernel) (by decide +kernel)
set_option maxRecDepth 20000 in
theorem gX9_write_X9_room : GoodIn wsX9_write (wsV RX9 151 RX9 yX9_room wsX9_room) := goodIn_app (goodIn_of _ (by decide +kernel)) ggX9_write_X9_room
set_option maxRecDepth 20000 in
theorem ggX9_write_X9_clearReceived : GoodIn wsX9_write wsX9_clearReceived := goodIn_r _ [35, 36, 37, 38, 44, 45, 46, 47, 48, 49, 50, 51, 52, 53, 54, 55, 56, 57, 58, 59, 60, 61, 62, 63, 64, 65, 66, 67, 68, 69, 70, 71, 72, 73, 74, 75, 76, 77, 78, 79, 80, 81, 82, 83] (by decide +kernel) (by decide +kernel)
set_option maxRecDepth 20000 in
theorem gX9_write_X9_clearReceived : GoodIn wsX9_write (wsV RX9 154 RX9 yX9_clearReceived wsX9_clearReceived) := goodIn_app (goodIn_of _ (by decide +kernel)) ggX9_write_X9_clearReceived
set_option maxRecDepth 20000 in
theorem ggX9_write_X9_notice : GoodIn wsX9_write wsX9_notice := goodIn_r _ [42, 43, 14, 15, 16, 17, 18, 19, 12, 20, 21, 22, 23, 44, 45, 46, 47, 48, 49, 50, 51, 52, 53, 54, 55, 56, 57, 58, 59, 60, 61, 62, 63, 64, 65, 66, 67, 68, 69, 70, 71, 72, 73, 74, 75, 76, 77, 78, 79, 80, 81, 82, 83] (by decide +kernel) (by decide +kernel)
set_option maxRecDepth 20000 in
theorem gX9_write_X9_notice : GoodIn wsX9_write (wsV RX9 143 RX9 yX9_notice wsX9_notice) := goodIn_app (goodIn_of _ (by decide +kernel)) ggX9_write_X9_notice
def F_X9_clearReceived  (v_receivedMany : Int32) (v_lateUp : Bool) (v_lateCount : Int32) : Option (Int32 × Bool × Int32) := some (0, false, 0)
def wX9_clearReceived (h_ : Nat) (h_received : Nat) (h_marks : Nat) (h_sending : Nat) (h_waveHigh : Nat) (h_waveBeats : Nat) (h_runHigh : Nat) (h_runBeats : Nat) (v_divisor : Int32) (v_clocks : Int32) (v_wanted : Int32) (v_rowsOn : Bool) (v_level : Int32) (v_form : Int32) (v_outputs : Int32) (v_byteKept : Int32) (v_ins : Int32) (v_changed : Int32) (v_overrun : Bool) (v_sendingMany : Int32) (v_emptyUp : Bool) (v_waveMany : Int32) (v_lineIn : Bool) (v_sends : Bool) (v_sentCharacter : Int32) (v_sentForm : Int32) (v_sentBeat : Int32) (v_senderHigh : Bool) (v_takes : Bool) (v_sawHigh : Bool) (v_takenForm : Int32) (v_takenBeat : Int32) (v_takenBits : Int32) (v_takenParity : Int32) (v_beats : Int32) (v_out : Bool) (v_runs : Int32) (v_thrown : Int32) (u : Int32 × Bool × Int32) : va_W := [oX9 h_ v_divisor v_clocks v_wanted v_rowsOn v_level v_form v_outputs v_byteKept v_ins v_changed h_received h_marks u.1 v_overrun h_sending v_sendingMany v_emptyUp u.2.1 u.2.2 h_waveHigh h_waveBeats v_waveMany v_lineIn v_sends v_sentCharacter v_sentForm v_sentBeat v_senderHigh v_takes v_sawHigh v_takenForm v_takenBeat v_takenBits v_takenParity v_beats v_out h_runHigh h_runBeats v_runs v_thrown]
set_option maxHeartbeats 4000000 in
set_option maxRecDepth 100000 in
theorem mX9_clearReceived {l : Launch} (D : va_G) (h_ : Nat) (h_received : Nat) (h_marks : Nat) (h_sending : Nat) (h_waveHigh : Nat) (h_waveBeats : Nat) (h_runHigh : Nat) (h_runBeats : Nat) (v_divisor : Int32) (v_clocks : Int32) (v_wanted : Int32) (v_rowsOn : Bool) (v_level : Int32) (v_form : Int32) (v_outputs : Int32) (v_byteKept : Int32) (v_ins : Int32) (v_changed : Int32) (v_receivedMany : Int32) (v_overrun : Bool) (v_sendingMany : Int32) (v_emptyUp : Bool) (v_lateUp : Bool) (v_lateCount : Int32) (v_waveMany : Int32) (v_lineIn : Bool) (v_sends : Bool) (v_sentCharacter : Int32) (v_sentForm : Int32) (v_sentBeat : Int32) (v_senderHigh : Bool) (v_takes : Bool) (v_sawHigh : Bool) (v_takenForm : Int32) (v_takenBeat : Int32) (v_takenBits : Int32) (v_takenParity : Int32) (v_beats : Int32) (v_out : Bool) (v_runs : Int32) (v_thrown : Int32) (u0 : Int32 × Bool × Int32) (hF : F_X9_clearReceived v_receivedMany v_lateUp v_lateCount = some u0) : MV l yX9_clearReceived wsX9_clearReceived { frames := 0, cells := 0, slots := 0, locals := 0 } D [] [.ref h_] [oX9 h_ v_divisor v_clocks v_wanted v_rowsOn v_level v_form v_outputs v_byteKept v_ins v_changed h_received h_marks v_receivedMany v_overrun h_sending v_sendingMany v_emptyUp v_lateUp v_lateCount h_waveHigh h_waveBeats v_waveMany v_lineIn v_sends v_sentCharacter v_sentForm v_sentBeat v_senderHigh v_takes v_sawHigh v_takenForm v_takenBeat v_takenBits v_takenParity v_beats v_out h_runHigh h_runBeats v_runs v_thrown] (wX9_clearReceived h_ h_received h_marks h_sending h_waveHigh h_waveBeats h_runHigh h_runBeats v_divisor v_clocks v_wanted v_rowsOn v_level v_form v_outputs v_byteKept v_ins v_changed v_overrun v_sendingMany v_emptyUp v_waveMany v_lineIn v_sends v_sentCharacter v_sentForm v_sentBeat v_senderHigh v_takes v_sawHigh v_takenForm v_takenBeat v_takenBits v_takenParity v_beats v_out v_runs v_thrown u0) := by
  refine MV.ofW (cc := cX9_clearReceived) (maxL := 1) (ret := none) (lv := [(0, .ref h_)]) (by decide +kernel) rfl (Nat.le_of_ble_eq_true rfl) rfl ?_
  intro p e s m args below meth c A ls hx hb hr hml hts hown hlocks hA hK hP hD hS hl
  replace hown : s.vm.findClass RX9 = some m.cls := hown
  have i_X9 : ∀ w ∈ wsX90, w ∈ wsX9_clearReceived := by decide +kernel
  have f_70 := hts (.fieldLink RX9 70 "SerialPortModel" "receivedMany" "I") (by decide +kernel)
  have f_82 := hts (.fieldLink RX9 82 "SerialPortModel" "lateUp" "Z") (by decide +kernel)
  have f_85 := hts (.fieldLink RX9 85 "SerialPortModel" "lateCount" "I") (by decide +kernel)
  have hret : ∀ (u : Int32 × Bool × Int32) (H : Heap) (locs : List Loc) (pc : Nat) (ls : Array Slot), va_P D vwCl (wX9_clearReceived h_ h_received h_marks h_sending h_waveHigh h_waveBeats h_runHigh h_runBeats v_divisor v_clocks v_wanted v_rowsOn v_level v_form v_outputs v_byteKept v_ins v_changed v_overrun v_sendingMany v_emptyUp v_waveMany v_lineIn v_sends v_sentCharacter v_sentForm v_sentBeat v_senderHigh v_takes v_sawHigh v_takenForm v_takenBeat v_takenBits v_takenParity v_beats v_out v_runs v_thrown u) H → va_D A (wX9_clearReceived h_ h_received h_marks h_sending h_waveHigh h_waveBeats h_runHigh h_runBeats v_divisor v_clocks v_wanted v_rowsOn v_level v_form v_outputs v_byteKept v_ins v_changed v_overrun v_sendingMany v_emptyUp v_waveMany v_lineIn v_sends v_sentCharacter v_sentForm v_sentBeat v_senderHigh v_takes v_sawHigh v_takenForm v_takenBeat v_takenBits v_takenParity v_beats v_out v_runs v_thrown u) → va_S A s.heap H locs → some u = some u0 → decode cX9_clearReceived pc = .ok (.return_, 1) → W p l e { frames := 0, cells := 0, slots := 0, locals := 0 } s m args below meth c H locs 0 0 (QV below D [] (wX9_clearReceived h_ h_received h_marks h_sending h_waveHigh h_waveBeats h_runHigh h_runBeats v_divisor v_clocks v_wanted v_rowsOn v_level v_form v_outputs v_byteKept v_ins v_changed v_overrun v_sendingMany v_emptyUp v_waveMany v_lineIn v_sends v_sentCharacter v_sentForm v_sentBeat v_senderHigh v_takes v_sawHigh v_takenForm v_takenBeat v_takenBits v_takenParity v_beats v_out v_runs v_thrown u0) args s A) (F0 m pc ls []) := fun u H locs pc ls h1 h2 h3 h4 h5 => rV (wf := wX9_clearReceived h_ h_received h_marks h_sending h_waveHigh h_waveBeats h_runHigh h_runBeats v_divisor v_clocks v_wanted v_rowsOn v_level v_form v_outputs v_byteKept v_ins v_changed v_overrun v_sendingMany v_emptyUp v_waveMany v_lineIn v_sends v_sentCharacter v_sentForm v_sentBeat v_senderHigh v_takes v_sawHigh v_takenForm v_takenBeat v_takenBits v_takenParity v_beats v_out v_runs v_thrown) hx hb hr hlocks hK h1 h2 h3 h4 h5
  unfold F_X9_clearReceived at hF
  refine lv_aload_n hx hb dX9_clearReceived_0 rfl (lv_at hl 0 rfl) ?_
  refine lv_iconst (v := 0) hx hb dX9_clearReceived_1 (by decide) ?_
  refine pf (ci := 8) (v := .int 0) (ty := .int) (C := RX9) (T := TX9) (N := 40) (ws' := [oX9 h_ v_divisor v_clocks v_wanted v_rowsOn v_level v_form v_outputs v_byteKept v_ins v_changed h_received h_marks 0 v_overrun h_sending v_sendingMany v_emptyUp v_lateUp v_lateCount h_waveHigh h_waveBeats v_waveMany v_lineIn v_sends v_sentCharacter v_sentForm v_sentBeat v_senderHigh v_takes v_sawHigh v_takenForm v_takenBeat v_takenBits v_takenParity v_beats v_out h_runHigh h_runBeats v_runs v_thrown]) hx hb hts i_X9 tyX9_ok nmX9 hown hK hP hD hS 0 rfl rfl 12 (Nat.le_of_ble_eq_true rfl) f_70 rfl rfl (by decide +kernel) rfl rfl (Nat.le_of_ble_eq_true rfl) rfl dX9_clearReceived_2 (fun H locs hP hD hS => ?_)
  refine lv_aload_n hx hb dX9_clearReceived_5 rfl (lv_at hl 0 rfl) ?_
  refine lv_iconst (v := 0) hx hb dX9_clearReceived_6 (by decide) ?_
  refine pf (ci := 8) (v := .int (bI false)) (ty := .boolean) (C := RX9) (T := TX9) (N := 40) (ws' := [oX9 h_ v_divisor v_clocks v_wanted v_rowsOn v_level v_form v_outputs v_byteKept v_ins v_changed h_received h_marks 0 v_overrun h_sending v_sendingMany v_emptyUp false v_lateCount h_waveHigh h_waveBeats v_waveMany v_lineIn v_sends v_sentCharacter v_sentForm v_sentBeat v_senderHigh v_takes v_sawHigh v_takenForm v_takenBeat v_takenBits v_takenParity v_beats v_out h_runHigh h_runBeats v_runs v_thrown]) hx hb hts i_X9 tyX9_ok nmX9 hown hK hP hD hS 0 rfl rfl 17 (Nat.le_of_ble_eq_true rfl) f_82 rfl rfl (by decide +kernel) (nar_bI false) (fit_bI false) (Nat.le_of_ble_eq_true rfl) rfl dX9_clearReceived_7 (fun H locs hP hD hS => ?_)
  refine lv_aload_n hx hb dX9_clearReceived_10 rfl (lv_at hl 0 rfl) ?_
  refine lv_iconst (v := 0) hx hb dX9_clearReceived_11 (by decide) ?_
  refine pf (ci := 8) (v := .int 0) (ty := .int) (C := RX9) (T := TX9) (N := 40) (ws' := [oX9 h_ v_divisor v_clocks v_wanted v_rowsOn v_level v_form v_outputs v_byteKept v_ins v_changed h_received h_marks 0 v_overrun h_sending v_sendingMany v_emptyUp false 0 h_waveHigh h_waveBeats v_waveMany v_lineIn v_sends v_sentCharacter v_sentForm v_sentBeat v_senderHigh v_takes v_sawHigh v_takenForm v_takenBeat v_takenBits v_takenParity v_beats v_out h_runHigh h_runBeats v_runs v_thrown]) hx hb hts i_X9 tyX9_ok nmX9 hown hK hP hD hS 0 rfl rfl 18 (Nat.le_of_ble_eq_true rfl) f_85 rfl rfl (by decide +kernel) rfl rfl (Nat.le_of_ble_eq_true rfl) rfl dX9_clearReceived_12 (fun H locs hP hD hS => ?_)
  exact hret (0, false, 0) _ _ 15 _ hP hD hS hF dX9_clearReceived_15
def F_X9_write_297 (v_ins : Int32) (v_sending_n : Nat) (l3 : Int32) (v_divisor : Int32) (v_clocks : Int32) (v_wanted : Int32) (v_rowsOn : Bool) (v_level : Int32) (v_form : Int32) (v_outputs : Int32) (v_byteKept : Int32) (v_changed : Int32) (v_receivedMany : Int32) (v_sendingMany : Int32) (v_emptyUp : Bool) (v_lateUp : Bool) (v_lateCount : Int32) (v_thrown : Int32) (v_sending_a : Nat → Int32) : Option (Int32 × Int32 × Int32 × Bool × Int32 × Int32 × Int32 × Int32 × Int32 × Int32 × Int32 × Bool × Bool × Int32 × Int32 × (Nat → Int32)) := lt1 (l3 >>> ((6 : Int32) &&& 31)) (fun x1 => if x1 = 0 then (some (v_divisor, v_clocks, v_wanted, v_rowsOn, 1, v_form, v_outputs, v_byteKept, v_changed, v_receivedMany, v_sendingMany, v_emptyUp, v_lateUp, v_lateCount, v_thrown, v_sending_a)) else (if x1 = 1 then (some (v_divisor, v_clocks, v_wanted, v_rowsOn, 4, v_form, v_outputs, v_byteKept, v_changed, v_receivedMany, v_sendingMany, v_emptyUp, v_lateUp, v_lateCount, v_thrown, v_sending_a)) else (if x1 = 2 then (some (v_divisor, v_clocks, v_wanted, v_rowsOn, 8, v_form, v_outputs, v_byteKept, v_changed, v_receivedMany, v_sendingMany, v_emptyUp, v_lateUp, v_lateCount, v_thrown, v_sending_a)) else (some (v_divisor, v_clocks, v_wanted, v_rowsOn, 14, v_form, v_outputs, v_byteKept, v_changed, v_receivedMany, v_sendingMany, v_emptyUp, v_lateUp, v_lateCount, v_thrown, v_sending_a)))))
def F_X9_write_286 (v_ins : Int32) (v_sending_n : Nat) (l3 : Int32) (v_divisor : Int32) (v_clocks : Int32) (v_wanted : Int32) (v_rowsOn : Bool) (v_level : Int32) (v_form : Int32) (v_outputs : Int32) (v_byteKept : Int32) (v_changed : Int32) (v_receivedMany : Int32) (v_sendingMany : Int32) (v_emptyUp : Bool) (v_lateUp : Bool) (v_lateCount : Int32) (v_thrown : Int32) (v_sending_a : Nat → Int32) : Option (Int32 × Int32 × Int32 × Bool × Int32 × Int32 × Int32 × Int32 × Int32 × Int32 × Int32 × Bool × Bool × Int32 × Int32 × (Nat → Int32)) := if (l3 &&& 4) = 0 then (F_X9_write_297 v_ins v_sending_n l3 v_divisor v_clocks v_wanted v_rowsOn v_level v_form v_outputs v_byteKept v_changed v_receivedMany v_sendingMany v_emptyUp v_lateUp v_lateCount v_thrown v_sending_a) else (F_X9_write_297 v_ins v_sending_n l3 v_divisor v_clocks v_wanted v_rowsOn v_level v_form v_outputs v_byteKept v_changed v_receivedMany 0 v_emptyUp v_lateUp v_lateCount v_thrown v_sending_a)
def F_X9_write_271 (v_ins : Int32) (v_sending_n : Nat) (l3 : Int32) (l5 : Bool) (v_divisor : Int32) (v_clocks : Int32) (v_wanted : Int32) (v_rowsOn : Bool) (v_level : Int32) (v_form : Int32) (v_outputs : Int32) (v_byteKept : Int32) (v_changed : Int32) (v_receivedMany : Int32) (v_sendingMany : Int32) (v_emptyUp : Bool) (v_lateUp : Bool) (v_lateCount : Int32) (v_thrown : Int32) (v_sending_a : Nat → Int32) : Option (Int32 × Int32 × Int32 × Bool × Int32 × Int32 × Int32 × Int32 × Int32 × Int32 × Int32 × Bool × Bool × Int32 × Int32 × (Nat → Int32)) := bt l5 (if (l3 &&& 2) = 0 then (F_X9_write_286 v_ins v_sending_n l3 v_divisor v_clocks v_wanted v_rowsOn v_level v_form v_outputs v_byteKept v_changed v_receivedMany v_sendingMany v_emptyUp v_lateUp v_lateCount v_thrown v_sending_a) else (bd (F_X9_clearReceived v_receivedMany v_lateUp v_lateCount) (fun u8 => F_X9_write_286 v_ins v_sending_n l3 v_divisor v_clocks v_wanted v_rowsOn v_level v_form v_outputs v_byteKept v_changed u8.1 v_sendingMany v_emptyUp u8.2.1 u8.2.2 v_thrown v_sending_a))) (some (v_divisor, v_clocks, v_wanted, v_rowsOn, v_level, v_form, v_outputs, v_byteKept, v_changed, v_receivedMany, v_sendingMany, v_emptyUp, v_lateUp, v_lateCount, v_thrown, v_sending_a))
def F_X9_write_245 (v_ins : Int32) (v_sending_n : Nat) (s0 : Bool) (l3 : Int32) (v_divisor : Int32) (v_clocks : Int32) (v_wanted : Int32) (v_rowsOn : Bool) (v_level : Int32) (v_form : Int32) (v_outputs : Int32) (v_byteKept : Int32) (v_changed : Int32) (v_receivedMany : Int32) (v_sendingMany : Int32) (v_emptyUp : Bool) (v_lateUp : Bool) (v_lateCount : Int32) (v_thrown : Int32) (v_sending_a : Nat → Int32) : Option (Int32 × Int32 × Int32 × Bool × Int32 × Int32 × Int32 × Int32 × Int32 × Int32 × Int32 × Bool × Bool × Int32 × Int32 × (Nat → Int32)) := if (bI s0) = (bI v_rowsOn) then (F_X9_write_271 v_ins v_sending_n l3 s0 v_divisor v_clocks v_wanted v_rowsOn v_level v_form v_outputs v_byteKept v_changed v_receivedMany v_sendingMany v_emptyUp v_lateUp v_lateCount v_thrown v_sending_a) else (bd (F_X9_clearReceived v_receivedMany v_lateUp v_lateCount) (fun u10 => F_X9_write_271 v_ins v_sending_n l3 s0 v_divisor v_clocks v_wanted s0 v_level v_form v_outputs v_byteKept v_changed u10.1 0 v_emptyUp u10.2.1 u10.2.2 v_thrown v_sending_a))
def F_X9_write (p1 : Int32) (p2 : Int32) (v_divisor : Int32) (v_clocks : Int32) (v_wanted : Int32) (v_rowsOn : Bool) (v_level : Int32) (v_form : Int32) (v_outputs : Int32) (v_byteKept : Int32) (v_ins : Int32) (v_changed : Int32) (v_receivedMany : Int32) (v_sendingMany : Int32) (v_emptyUp : Bool) (v_lateUp : Bool) (v_lateCount : Int32) (v_thrown : Int32) (v_sending_n : Nat) (v_sending_a : Nat → Int32) : Option (Int32 × Int32 × Int32 × Bool × Int32 × Int32 × Int32 × Int32 × Int32 × Int32 × Int32 × Bool × Bool × Int32 × Int32 × (Nat → Int32)) := if p1 < 0 then (some (v_divisor, v_clocks, v_wanted, v_rowsOn, v_level, v_form, v_outputs, v_byteKept, v_changed, v_receivedMany, v_sendingMany, v_emptyUp, v_lateUp, v_lateCount, 1, v_sending_a)) else (if p1 ≤ 7 then (lt1 (p2 &&& 255) (fun x13 => bd (F_X9_lines v_outputs v_ins) (fun u14 => if p1 = 0 then (bd (F_X9_dlab v_form) (fun u16 => bt u16 (lt1 ((v_divisor &&& (65280 : Int32)) ||| x13) (fun x24 => some (x24, 0, v_wanted, v_rowsOn, v_level, v_form, v_outputs, v_byteKept, v_changed, v_receivedMany, v_sendingMany, v_emptyUp, v_lateUp, v_lateCount, 0, v_sending_a))) (bd (F_X9_room v_rowsOn) (fun u18 => if u18 ≤ v_sendingMany then (bt v_rowsOn (some (v_divisor, v_clocks, v_wanted, v_rowsOn, v_level, v_form, v_outputs, v_byteKept, v_changed, v_receivedMany, v_sendingMany, false, v_lateUp, v_lateCount, 0, v_sending_a)) (gd (inR 0 v_sending_n = true) (some (v_divisor, v_clocks, v_wanted, v_rowsOn, v_level, v_form, v_outputs, v_byteKept, v_changed, v_receivedMany, v_sendingMany, false, v_lateUp, v_lateCount, 0, upd v_sending_a ((0 : Int32).toNatClampNeg) x13)))) else (gd (inR v_sendingMany v_sending_n = true) (lt1 (v_sendingMany + 1) (fun x23 => some (v_divisor, v_clocks, v_wanted, v_rowsOn, v_level, v_form, v_outputs, v_byteKept, v_changed, v_receivedMany, x23, false, v_lateUp, v_lateCount, 0, upd v_sending_a (v_sendingMany.toNatClampNeg) x13)))))))) else (if p1 = 1 then (bd (F_X9_dlab v_form) (fun u26 => bt u26 (lt1 ((v_divisor &&& 255) ||| (x13 <<< ((8 : Int32) &&& 31))) (fun x35 => some (x35, 0, v_wanted, v_rowsOn, v_level, v_form, v_outputs, v_byteKept, v_changed, v_receivedMany, v_sendingMany, v_emptyUp, v_lateUp, v_lateCount, 0, v_sending_a))) (if (x13 &&& 2) = 0 then (lt1 (x13 &&& 15) (fun x29 => some (v_divisor, v_clocks, x29, v_rowsOn, v_level, v_form, v_outputs, v_byteKept, v_changed, v_receivedMany, v_sendingMany, v_emptyUp, v_lateUp, v_lateCount, 0, v_sending_a))) else (if (v_wanted &&& 2) = 0 then (if v_sendingMany = 0 then (lt1 (x13 &&& 15) (fun x34 => some (v_divisor, v_clocks, x34, v_rowsOn, v_level, v_form, v_outputs, v_byteKept, v_changed, v_receivedMany, v_sendingMany, true, v_lateUp, v_lateCount, 0, v_sending_a))) else (lt1 (x13 &&& 15) (fun x33 => some (v_divisor, v_clocks, x33, v_rowsOn, v_level, v_form, v_outputs, v_byteKept, v_changed, v_receivedMany, v_sendingMany, v_emptyUp, v_lateUp, v_lateCount, 0, v_sending_a)))) else (lt1 (x13 &&& 15) (fun x31 => some (v_divisor, v_clocks, x31, v_rowsOn, v_level, v_form, v_outputs, v_byteKept, v_changed, v_receivedMany, v_sendingMany, v_emptyUp, v_lateUp, v_lateCount, 0, v_sending_a))))))) else (if p1 = 2 then (if (x13 &&& 1) = 0 then (F_X9_write_245 v_ins v_sending_n false x13 v_divisor v_clocks v_wanted v_rowsOn v_level v_form v_outputs v_byteKept v_changed v_receivedMany v_sendingMany v_emptyUp v_lateUp v_lateCount 0 v_sending_a) else (F_X9_write_245 v_ins v_sending_n true x13 v_divisor v_clocks v_wanted v_rowsOn v_level v_form v_outputs v_byteKept v_changed v_receivedMany v_sendingMany v_emptyUp v_lateUp v_lateCount 0 v_sending_a)) else (if p1 = 3 then (some (v_divisor, v_clocks, v_wanted, v_rowsOn, v_level, x13, v_outputs, v_byteKept, v_changed, v_receivedMany, v_sendingMany, v_emptyUp, v_lateUp, v_lateCount, 0, v_sending_a)) else (if p1 = 4 then (lt1 (x13 &&& 31) (fun x40 => bd (F_X9_notice u14 x40 v_ins v_changed) (fun u41 => some (v_divisor, v_clocks, v_wanted, v_rowsOn, v_level, v_form, x40, v_byteKept, u41, v_receivedMany, v_sendingMany, v_emptyUp, v_lateUp, v_lateCount, 0, v_sending_a)))) else (if p1 = 5 then (some (v_divisor, v_clocks, v_wanted, v_rowsOn, v_level, v_form, v_outputs, v_byteKept, v_changed, v_receivedMany, v_sendingMany, v_emptyUp, v_lateUp, v_lateCount, 0, v_sending_a)) else (if p1 = 6 then (some (v_divisor, v_clocks, v_wanted, v_rowsOn, v_level, v_form, v_outputs, v_byteKept, v_changed, v_receivedMany, v_sendingMany, v_emptyUp, v_lateUp, v_lateCount, 0, v_sending_a)) else (if p1 = 7 then (some (v_divisor, v_clocks, v_wanted, v_rowsOn, v_level, v_form, v_outputs, x13, v_changed, v_receivedMany, v_sendingMany, v_emptyUp, v_lateUp, v_lateCount, 0, v_sending_a)) else (some (v_divisor, v_clocks, v_wanted, v_rowsOn, v_level, v_form, v_outputs, v_byteKept, v_changed, v_receivedMany, v_sendingMany, v_emptyUp, v_lateUp, v_lateCount, 0, v_sending_a)))))))))))) else (some (v_divisor, v_clocks, v_wanted, v_rowsOn, v_level, v_form, v_outputs, v_byteKept, v_changed, v_receivedMany, v_sendingMany, v_emptyUp, v_lateUp, v_lateCount, 1, v_sending_a)))
def wX9_write (k_sending : ClassId) (h_ : Nat) (h_received : Nat) (h_marks : Nat) (h_sending : Nat) (h_waveHigh : Nat) (h_waveBeats : Nat) (h_runHigh : Nat) (h_runBeats : Nat) (v_ins : Int32) (v_overrun : Bool) (v_waveMany : Int32) (v_lineIn : Bool) (v_sends : Bool) (v_sentCharacter : Int32) (v_sentForm : Int32) (v_sentBeat : Int32) (v_senderHigh : Bool) (v_takes : Bool) (v_sawHigh : Bool) (v_takenForm : Int32) (v_takenBeat : Int32) (v_takenBits : Int32) (v_takenParity : Int32) (v_beats : Int32) (v_out : Bool) (v_runs : Int32) (v_sending_n : Nat) (u : Int32 × Int32 × Int32 × Bool × Int32 × Int32 × Int32 × Int32 × Int32 × Int32 × Int32 × Bool × Bool × Int32 × Int32 × (Nat → Int32)) : va_W := [oX9 h_ u.1 u.2.1 u.2.2.1 u.2.2.2.1 u.2.2.2.2.1 u.2.2.2.2.2.1 u.2.2.2.2.2.2.1 u.2.2.2.2.2.2.2.1 v_ins u.2.2.2.2.2.2.2.2.1 h_received h_marks u.2.2.2.2.2.2.2.2.2.1 v_overrun h_sending u.2.2.2.2.2.2.2.2.2.2.1 u.2.2.2.2.2.2.2.2.2.2.2.1 u.2.2.2.2.2.2.2.2.2.2.2.2.1 u.2.2.2.2.2.2.2.2.2.2.2.2.2.1 h_waveHigh h_waveBeats v_waveMany v_lineIn v_sends v_sentCharacter v_sentForm v_sentBeat v_senderHigh v_takes v_sawHigh v_takenForm v_takenBeat v_takenBits v_takenParity v_beats v_out h_runHigh h_runBeats v_runs u.2.2.2.2.2.2.2.2.2.2.2.2.2.2.1, aI h_sending k_sending v_sending_n u.2.2.2.2.2.2.2.2.2.2.2.2.2.2.2]
set_option maxHeartbeats 4000000 in
set_option maxRecDepth 100000 in
theorem mX9_write {l : Launch} (D : va_G) (k_sending : ClassId) (h_ : Nat) (h_received : Nat) (h_marks : Nat) (h_sending : Nat) (h_waveHigh : Nat) (h_waveBeats : Nat) (h_runHigh : Nat) (h_runBeats : Nat) (v_divisor : Int32) (v_clocks : Int32) (v_wanted : Int32) (v_rowsOn : Bool) (v_level : Int32) (v_form : Int32) (v_outputs : Int32) (v_byteKept : Int32) (v_ins : Int32) (v_changed : Int32) (v_receivedMany : Int32) (v_overrun : Bool) (v_sendingMany : Int32) (v_emptyUp : Bool) (v_lateUp : Bool) (v_lateCount : Int32) (v_waveMany : Int32) (v_lineIn : Bool) (v_sends : Bool) (v_sentCharacter : Int32) (v_sentForm : Int32) (v_sentBeat : Int32) (v_senderHigh : Bool) (v_takes : Bool) (v_sawHigh : Bool) (v_takenForm : Int32) (v_takenBeat : Int32) (v_takenBits : Int32) (v_takenParity : Int32) (v_beats : Int32) (v_out : Bool) (v_runs : Int32) (v_thrown : Int32) (v_sending_n : Nat) (v_sending_a : Nat → Int32) (p1 : Int32) (p2 : Int32) (u0 : Int32 × Int32 × Int32 × Bool × Int32 × Int32 × Int32 × Int32 × Int32 × Int32 × Int32 × Bool × Bool × Int32 × Int32 × (Nat → Int32)) (hF : F_X9_write p1 p2 v_divisor v_clocks v_wanted v_rowsOn v_level v_form v_outputs v_byteKept v_ins v_changed v_receivedMany v_sendingMany v_emptyUp v_lateUp v_lateCount v_thrown v_sending_n v_sending_a = some u0) : MV l yX9_write wsX9_write { frames := 3, cells := 0, slots := 0, locals := 63 } D [(k_sending, .int)] [.ref h_, .int p1, .int p2] [oX9 h_ v_divisor v_clocks v_wanted v_rowsOn v_level v_form v_outputs v_byteKept v_ins v_changed h_received h_marks v_receivedMany v_overrun h_sending v_sendingMany v_emptyUp v_lateUp v_lateCount h_waveHigh h_waveBeats v_waveMany v_lineIn v_sends v_sentCharacter v_sentForm v_sentBeat v_senderHigh v_takes v_sawHigh v_takenForm v_takenBeat v_takenBits v_takenParity v_beats v_out h_runHigh h_runBeats v_runs v_thrown, aI h_sending k_sending v_sending_n v_sending_a] (wX9_write k_sending h_ h_received h_marks h_sending h_waveHigh h_waveBeats h_runHigh h_runBeats v_ins v_overrun v_waveMany v_lineIn v_sends v_sentCharacter v_sentForm v_sentBeat v_senderHigh v_takes v_sawHigh v_takenForm v_takenBeat v_takenBits v_takenParity v_beats v_out v_runs v_sending_n u0) := by
  refine MV.ofW (cc := cX9_write) (maxL := 7) (ret := none) (lv := [(0, .ref h_), (1, .int p1), (2, .int p2)]) (by decide +kernel) rfl (Nat.le_of_ble_eq_true rfl) rfl ?_
  intro p e s m args below meth c A ls hx hb hr hml hts hown hlocks hA hK hP hD hS hl
  replace hown : s.vm.findClass RX9 = some m.cls := hown
  have i_X9 : ∀ w ∈ wsX90, w ∈ wsX9_write := by decide +kernel
  have f_16 := hts (.fieldLink RX9 16 "SerialPortModel" "sending" "[I") (by decide +kernel)
  have f_35 := hts (.fieldLink RX9 35 "SerialPortModel" "thrown" "I") (by decide +kernel)
  have f_39 := hts (.fieldLink RX9 39 "SerialPortModel" "divisor" "I") (by decide +kernel)
  have f_42 := hts (.fieldLink RX9 42 "SerialPortModel" "clocks" "I") (by decide +kernel)
  have f_45 := hts (.fieldLink RX9 45 "SerialPortModel" "wanted" "I") (by decide +kernel)
  have f_48 := hts (.fieldLink RX9 48 "SerialPortModel" "rowsOn" "Z") (by decide +kernel)
  have f_52 := hts (.fieldLink RX9 52 "SerialPortModel" "level" "I") (by decide +kernel)
  have f_55 := hts (.fieldLink RX9 55 "SerialPortModel" "form" "I") (by decide +kernel)
  have f_58 := hts (.fieldLink RX9 58 "SerialPortModel" "outputs" "I") (by decide +kernel)
  have f_61 := hts (.fieldLink RX9 61 "SerialPortModel" "byteKept" "I") (by decide +kernel)
  have f_76 := hts (.fieldLink RX9 76 "SerialPortModel" "sendingMany" "I") (by decide +kernel)
  have f_79 := hts (.fieldLink RX9 79 "SerialPortModel" "emptyUp" "Z") (by decide +kernel)
  have c_150 := hts (.constant RX9 150 (65280)) (by decide +kernel)
  have hret : ∀ (u : Int32 × Int32 × Int32 × Bool × Int32 × Int32 × Int32 × Int32 × Int32 × Int32 × Int32 × Bool × Bool × Int32 × Int32 × (Nat → Int32)) (H : Heap) (locs : List Loc) (pc : Nat) (ls : Array Slot), va_P D vwCl (wX9_write k_sending h_ h_received h_marks h_sending h_waveHigh h_waveBeats h_runHigh h_runBeats v_ins v_overrun v_waveMany v_lineIn v_sends v_sentCharacter v_sentForm v_sentBeat v_senderHigh v_takes v_sawHigh v_takenForm v_takenBeat v_takenBits v_takenParity v_beats v_out v_runs v_sending_n u) H → va_D A (wX9_write k_sending h_ h_received h_marks h_sending h_waveHigh h_waveBeats h_runHigh h_runBeats v_ins v_overrun v_waveMany v_lineIn v_sends v_sentCharacter v_sentForm v_sentBeat v_senderHigh v_takes v_sawHigh v_takenForm v_takenBeat v_takenBits v_takenParity v_beats v_out v_runs v_sending_n u) → va_S A s.heap H locs → some u = some u0 → decode cX9_write pc = .ok (.return_, 1) → W p l e { frames := 3, cells := 0, slots := 0, locals := 63 } s m args below meth c H locs 0 0 (QV below D [(k_sending, .int)] (wX9_write k_sending h_ h_received h_marks h_sending h_waveHigh h_waveBeats h_runHigh h_runBeats v_ins v_overrun v_waveMany v_lineIn v_sends v_sentCharacter v_sentForm v_sentBeat v_senderHigh v_takes v_sawHigh v_takenForm v_takenBeat v_takenBits v_takenParity v_beats v_out v_runs v_sending_n u0) args s A) (F0 m pc ls []) := fun u H locs pc ls h1 h2 h3 h4 h5 => rV (wf := wX9_write k_sending h_ h_received h_marks h_sending h_waveHigh h_waveBeats h_runHigh h_runBeats v_ins v_overrun v_waveMany v_lineIn v_sends v_sentCharacter v_sentForm v_sentBeat v_senderHigh v_takes v_sawHigh v_takenForm v_takenBeat v_takenBits v_takenParity v_beats v_out v_runs v_sending_n) hx hb hr hlocks hK h1 h2 h3 h4 h5
  have J297 : ∀ (l3 : Int32) (v_divisor : Int32) (v_clocks : Int32) (v_wanted : Int32) (v_rowsOn : Bool) (v_level : Int32) (v_form : Int32) (v_outputs : Int32) (v_byteKept : Int32) (v_changed : Int32) (v_receivedMany : Int32) (v_sendingMany : Int32) (v_emptyUp : Bool) (v_lateUp : Bool) (v_lateCount : Int32) (v_thrown : Int32) (v_sending_a : Nat → Int32) (H : Heap) (locs : List Loc) (ls : Array Slot), F_X9_write_297 v_ins v_sending_n l3 v_divisor v_clocks v_wanted v_rowsOn v_level v_form v_outputs v_byteKept v_changed v_receivedMany v_sendingMany v_emptyUp v_lateUp v_lateCount v_thrown v_sending_a = some u0 → lv_has ls 7 [(0, .ref h_), (3, .int l3)] → va_P D vwCl [oX9 h_ v_divisor v_clocks v_wanted v_rowsOn v_level v_form v_outputs v_byteKept v_ins v_changed h_received h_marks v_receivedMany v_overrun h_sending v_sendingMany v_emptyUp v_lateUp v_lateCount h_waveHigh h_waveBeats v_waveMany v_lineIn v_sends v_sentCharacter v_sentForm v_sentBeat v_senderHigh v_takes v_sawHigh v_takenForm v_takenBeat v_takenBits v_takenParity v_beats v_out h_runHigh h_runBeats v_runs v_thrown, aI h_sending k_sending v_sending_n v_sending_a] H → va_D A [oX9 h_ v_divisor v_clocks v_wanted v_rowsOn v_level v_form v_outputs v_byteKept v_ins v_changed h_received h_marks v_receivedMany v_overrun h_sending v_sendingMany v_emptyUp v_lateUp v_lateCount h_waveHigh h_waveBeats v_waveMany v_lineIn v_sends v_sentCharacter v_sentForm v_sentBeat v_senderHigh v_takes v_sawHigh v_takenForm v_takenBeat v_takenBits v_takenParity v_beats v_out h_runHigh h_runBeats v_runs v_thrown, aI h_sending k_sending v_sending_n v_sending_a] → va_S A s.heap H locs → W p l e { frames := 3, cells := 0, slots := 0, locals := 63 } s m args below meth c H locs 0 0 (QV below D [(k_sending, .int)] (wX9_write k_sending h_ h_received h_marks h_sending h_waveHigh h_waveBeats h_runHigh h_runBeats v_ins v_overrun v_waveMany v_lineIn v_sends v_sentCharacter v_sentForm v_sentBeat v_senderHigh v_takes v_sawHigh v_takenForm v_takenBeat v_takenBits v_takenParity v_beats v_out v_runs v_sending_n u0) args s A) (F0 m 297 ls []) := by
    intro l3 v_divisor v_clocks v_wanted v_rowsOn v_level v_form v_outputs v_byteKept v_changed v_receivedMany v_sendingMany v_emptyUp v_lateUp v_lateCount v_thrown v_sending_a H locs ls hF hl hP hD hS
    unfold F_X9_write_297 at hF
    refine lv_iload_n hx hb dX9_write_297 rfl (lv_at hl 1 rfl) ?_
    refine lv_bipush (v := 6) hx hb dX9_write_298 (by decide) ?_
    refine lv_ishr hx hb dX9_write_300 ?_
    refine lv_topi (fun x1 ex1 => ?_)
    replace hF := lt1_x ex1 hF
    refine lv_istore (lv' := [(6, .int x1), (0, .ref h_), (3, .int l3)]) hx hb dX9_write_301 hl (Nat.le_of_ble_eq_true rfl) rfl (fun ls hl => ?_)
    refine lv_aload_n hx hb dX9_write_303 rfl (lv_at hl 1 rfl) ?_
    refine lv_iload hx hb dX9_write_304 (lv_at hl 0 rfl) ?_
    refine lv_if_ne (tgt := 313) hx hb dX9_write_306 (by decide) (fun c2 => ?_) (fun c2 => ?_)
    · replace hF := it_f c2 hF
      refine lv_iload hx hb dX9_write_313 (lv_at hl 0 rfl) ?_
      refine lv_iconst (v := 1) hx hb dX9_write_315 (by decide) ?_
      refine lv_icmp_ne (tgt := 323) hx hb dX9_write_316 (by decide) (fun c3 => ?_) (fun c3 => ?_)
      · replace hF := it_f c3 hF
        refine lv_iload hx hb dX9_write_323 (lv_at hl 0 rfl) ?_
        refine lv_iconst (v := 2) hx hb dX9_write_325 (by decide) ?_
        refine lv_icmp_ne (tgt := 334) hx hb dX9_write_326 (by decide) (fun c4 => ?_) (fun c4 => ?_)
        · replace hF := it_f c4 hF
          refine lv_bipush (v := 14) hx hb dX9_write_334 (by decide) ?_
          refine pf (ci := 8) (v := .int 14) (ty := .int) (C := RX9) (T := TX9) (N := 40) (ws' := [oX9 h_ v_divisor v_clocks v_wanted v_rowsOn 14 v_form v_outputs v_byteKept v_ins v_changed h_received h_marks v_receivedMany v_overrun h_sending v_sendingMany v_emptyUp v_lateUp v_lateCount h_waveHigh h_waveBeats v_waveMany v_lineIn v_sends v_sentCharacter v_sentForm v_sentBeat v_senderHigh v_takes v_sawHigh v_takenForm v_takenBeat v_takenBits v_takenParity v_beats v_out h_runHigh h_runBeats v_runs v_thrown, aI h_sending k_sending v_sending_n v_sending_a]) hx hb hts i_X9 tyX9_ok nmX9 hown hK hP hD hS 0 rfl rfl 4 (Nat.le_of_ble_eq_true rfl) f_52 rfl rfl (by decide +kernel) rfl rfl (Nat.le_of_ble_eq_true rfl) rfl dX9_write_336 (fun H locs hP hD hS => ?_)
          refine lv_goto (tgt := 375) hx hb dX9_write_339 (by decide) ?_
          exact hret (v_divisor, v_clocks, v_wanted, v_rowsOn, 14, v_form, v_outputs, v_byteKept, v_changed, v_receivedMany, v_sendingMany, v_emptyUp, v_lateUp, v_lateCount, v_thrown, v_sending_a) _ _ 375 _ hP hD hS hF dX9_write_375
        · replace hF := it_t c4 hF
          refine lv_bipush (v := 8) hx hb dX9_write_329 (by decide) ?_
          refine lv_goto (tgt := 336) hx hb dX9_write_331 (by decide) ?_
          refine pf (ci := 8) (v := .int 8) (ty := .int) (C := RX9) (T := TX9) (N := 40) (ws' := [oX9 h_ v_divisor v_clocks v_wanted v_rowsOn 8 v_form v_outputs v_byteKept v_ins v_changed h_received h_marks v_receivedMany v_overrun h_sending v_sendingMany v_emptyUp v_lateUp v_lateCount h_waveHigh h_waveBeats v_waveMany v_lineIn v_sends v_sentCharacter v_sentForm v_sentBeat v_senderHigh v_takes v_sawHigh v_takenForm v_takenBeat v_takenBits v_takenParity v_beats v_out h_runHigh h_runBeats v_runs v_thrown, aI h_sending k_sending v_sending_n v_sending_a]) hx hb hts i_X9 tyX9_ok nmX9 hown hK hP hD hS 0 rfl rfl 4 (Nat.le_of_ble_eq_true rfl) f_52 rfl rfl (by decide +kernel) rfl rfl (Nat.le_of_ble_eq_true rfl) rfl dX9_write_336 (fun H locs hP hD hS => ?_)
          refine lv_goto (tgt := 375) hx hb dX9_write_339 (by decide) ?_
          exact hret (v_divisor, v_clocks, v_wanted, v_rowsOn, 8, v_form, v_outputs, v_byteKept, v_changed, v_receivedMany, v_sendingMany, v_emptyUp, v_lateUp, v_lateCount, v_thrown, v_sending_a) _ _ 375 _ hP hD hS hF dX9_write_375
      · replace hF := it_t c3 hF
        refine lv_iconst (v := 4) hx hb dX9_write_319 (by decide) ?_
        refine lv_goto (tgt := 336) hx hb dX9_write_320 (by decide) ?_
        refine pf (ci := 8) (v := .int 4) (ty := .int) (C := RX9) (T := TX9) (N := 40) (ws' := [oX9 h_ v_divisor v_clocks v_wanted v_rowsOn 4 v_form v_outputs v_byteKept v_ins v_changed h_received h_marks v_receivedMany v_overrun h_sending v_sendingMany v_emptyUp v_lateUp v_lateCount h_waveHigh h_waveBeats v_waveMany v_lineIn v_sends v_sentCharacter v_sentForm v_sentBeat v_senderHigh v_takes v_sawHigh v_takenForm v_takenBeat v_takenBits v_takenParity v_beats v_out h_runHigh h_runBeats v_runs v_thrown, aI h_sending k_sending v_sending_n v_sending_a]) hx hb hts i_X9 tyX9_ok nmX9 hown hK hP hD hS 0 rfl rfl 4 (Nat.le_of_ble_eq_true rfl) f_52 rfl rfl (by decide +kernel) rfl rfl (Nat.le_of_ble_eq_true rfl) rfl dX9_write_336 (fun H locs hP hD hS => ?_)
        refine lv_goto (tgt := 375) hx hb dX9_write_339 (by decide) ?_
        exact hret (v_divisor, v_clocks, v_wanted, v_rowsOn, 4, v_form, v_outputs, v_byteKept, v_changed, v_receivedMany, v_sendingMany, v_emptyUp, v_lateUp, v_lateCount, v_thrown, v_sending_a) _ _ 375 _ hP hD hS hF dX9_write_375
    · replace hF := it_t c2 hF
      refine lv_iconst (v := 1) hx hb dX9_write_309 (by decide) ?_
      refine lv_goto (tgt := 336) hx hb dX9_write_310 (by decide) ?_
      refine pf (ci := 8) (v := .int 1) (ty := .int) (C := RX9) (T := TX9) (N := 40) (ws' := [oX9 h_ v_divisor v_clocks v_wanted v_rowsOn 1 v_form v_outputs v_byteKept v_ins v_changed h_received h_marks v_receivedMany v_overrun h_sending v_sendingMany v_emptyUp v_lateUp v_lateCount h_waveHigh h_waveBeats v_waveMany v_lineIn v_sends v_sentCharacter v_sentForm v_sentBeat v_senderHigh v_takes v_sawHigh v_takenForm v_takenBeat v_takenBits v_takenParity v_beats v_out h_runHigh h_runBeats v_runs v_thrown, aI h_sending k_sending v_sending_n v_sending_a]) hx hb hts i_X9 tyX9_ok nmX9 hown hK hP hD hS 0 rfl rfl 4 (Nat.le_of_ble_eq_true rfl) f_52 rfl rfl (by decide +kernel) rfl rfl (Nat.le_of_ble_eq_true rfl) rfl dX9_write_336 (fun H locs hP hD hS => ?_)
      refine lv_goto (tgt := 375) hx hb dX9_write_339 (by decide) ?_
      exact hret (v_divisor, v_clocks, v_wanted, v_rowsOn, 1, v_form, v_outputs, v_byteKept, v_changed, v_receivedMany, v_sendingMany, v_emptyUp, v_lateUp, v_lateCount, v_thrown, v_sending_a) _ _ 375 _ hP hD hS hF dX9_write_375
  have J286 : ∀ (l3 : Int32) (v_divisor : Int32) (v_clocks : Int32) (v_wanted : Int32) (v_rowsOn : Bool) (v_level : Int32) (v_form : Int32) (v_outputs : Int32) (v_byteKept : Int32) (v_changed : Int32) (v_receivedMany : Int32) (v_sendingMany : Int32) (v_emptyUp : Bool) (v_lateUp : Bool) (v_lateCount : Int32) (v_thrown : Int32) (v_sending_a : Nat → Int32) (H : Heap) (locs : List Loc) (ls : Array Slot), F_X9_write_286 v_ins v_sending_n l3 v_divisor v_clocks v_wanted v_rowsOn v_level v_form v_outputs v_byteKept v_changed v_receivedMany v_sendingMany v_emptyUp v_lateUp v_lateCount v_thrown v_sending_a = some u0 → lv_has ls 7 [(0, .ref h_), (3, .int l3)] → va_P D vwCl [oX9 h_ v_divisor v_clocks v_wanted v_rowsOn v_level v_form v_outputs v_byteKept v_ins v_changed h_received h_marks v_receivedMany v_overrun h_sending v_sendingMany v_emptyUp v_lateUp v_lateCount h_waveHigh h_waveBeats v_waveMany v_lineIn v_sends v_sentCharacter v_sentForm v_sentBeat v_senderHigh v_takes v_sawHigh v_takenForm v_takenBeat v_takenBits v_takenParity v_beats v_out h_runHigh h_runBeats v_runs v_thrown, aI h_sending k_sending v_sending_n v_sending_a] H → va_D A [oX9 h_ v_divisor v_clocks v_wanted v_rowsOn v_level v_form v_outputs v_byteKept v_ins v_changed h_received h_marks v_receivedMany v_overrun h_sending v_sendingMany v_emptyUp v_lateUp v_lateCount h_waveHigh h_waveBeats v_waveMany v_lineIn v_sends v_sentCharacter v_sentForm v_sentBeat v_senderHigh v_takes v_sawHigh v_takenForm v_takenBeat v_takenBits v_takenParity v_beats v_out h_runHigh h_runBeats v_runs v_thrown, aI h_sending k_sending v_sending_n v_sending_a] → va_S A s.heap H locs → W p l e { frames := 3, cells := 0, slots := 0, locals := 63 } s m args below meth c H locs 0 0 (QV below D [(k_sending, .int)] (wX9_write k_sending h_ h_received h_marks h_sending h_waveHigh h_waveBeats h_runHigh h_runBeats v_ins v_overrun v_waveMany v_lineIn v_sends v_sentCharacter v_sentForm v_sentBeat v_senderHigh v_takes v_sawHigh v_takenForm v_takenBeat v_takenBits v_takenParity v_beats v_out v_runs v_sending_n u0) args s A) (F0 m 286 ls []) := by
    intro l3 v_divisor v_clocks v_wanted v_rowsOn v_level v_form v_outputs v_byteKept v_changed v_receivedMany v_sendingMany v_emptyUp v_lateUp v_lateCount v_thrown v_sending_a H locs ls hF hl hP hD hS
    unfold F_X9_write_286 at hF
    refine lv_iload_n hx hb dX9_write_286 rfl (lv_at hl 1 rfl) ?_
    refine lv_iconst (v := 4) hx hb dX9_write_287 (by decide) ?_
    refine lv_iand hx hb dX9_write_288 ?_
    refine lv_if_eq (tgt := 297) hx hb dX9_write_289 (by decide) (fun c5 => ?_) (fun c5 => ?_)
    · replace hF := it_t c5 hF
      exact J297 l3 v_divisor v_clocks v_wanted v_rowsOn v_level v_form v_outputs v_byteKept v_changed v_receivedMany v_sendingMany v_emptyUp v_lateUp v_lateCount v_thrown v_sending_a _ _ _ hF hl hP hD hS
    · replace hF := it_f c5 hF
      refine lv_aload_n hx hb dX9_write_292 rfl (lv_at hl 0 rfl) ?_
      refine lv_iconst (v := 0) hx hb dX9_write_293 (by decide) ?_
      refine pf (ci := 8) (v := .int 0) (ty := .int) (C := RX9) (T := TX9) (N := 40) (ws' := [oX9 h_ v_divisor v_clocks v_wanted v_rowsOn v_level v_form v_outputs v_byteKept v_ins v_changed h_received h_marks v_receivedMany v_overrun h_sending 0 v_emptyUp v_lateUp v_lateCount h_waveHigh h_waveBeats v_waveMany v_lineIn v_sends v_sentCharacter v_sentForm v_sentBeat v_senderHigh v_takes v_sawHigh v_takenForm v_takenBeat v_takenBits v_takenParity v_beats v_out h_runHigh h_runBeats v_runs v_thrown, aI h_sending k_sending v_sending_n v_sending_a]) hx hb hts i_X9 tyX9_ok nmX9 hown hK hP hD hS 0 rfl rfl 15 (Nat.le_of_ble_eq_true rfl) f_76 rfl rfl (by decide +kernel) rfl rfl (Nat.le_of_ble_eq_true rfl) rfl dX9_write_294 (fun H locs hP hD hS => ?_)
      exact J297 l3 v_divisor v_clocks v_wanted v_rowsOn v_level v_form v_outputs v_byteKept v_changed v_receivedMany 0 v_emptyUp v_lateUp v_lateCount v_thrown v_sending_a _ _ _ hF hl hP hD hS
  have J271 : ∀ (l3 : Int32) (l5 : Bool) (v_divisor : Int32) (v_clocks : Int32) (v_wanted : Int32) (v_rowsOn : Bool) (v_level : Int32) (v_form : Int32) (v_outputs : Int32) (v_byteKept : Int32) (v_changed : Int32) (v_receivedMany : Int32) (v_sendingMany : Int32) (v_emptyUp : Bool) (v_lateUp : Bool) (v_lateCount : Int32) (v_thrown : Int32) (v_sending_a : Nat → Int32) (H : Heap) (locs : List Loc) (ls : Array Slot), F_X9_write_271 v_ins v_sending_n l3 l5 v_divisor v_clocks v_wanted v_rowsOn v_level v_form v_outputs v_byteKept v_changed v_receivedMany v_sendingMany v_emptyUp v_lateUp v_lateCount v_thrown v_sending_a = some u0 → lv_has ls 7 [(0, .ref h_), (3, .int l3), (5, .int (bI l5))] → va_P D vwCl [oX9 h_ v_divisor v_clocks v_wanted v_rowsOn v_level v_form v_outputs v_byteKept v_ins v_changed h_received h_marks v_receivedMany v_overrun h_sending v_sendingMany v_emptyUp v_lateUp v_lateCount h_waveHigh h_waveBeats v_waveMany v_lineIn v_sends v_sentCharacter v_sentForm v_sentBeat v_senderHigh v_takes v_sawHigh v_takenForm v_takenBeat v_takenBits v_takenParity v_beats v_out h_runHigh h_runBeats v_runs v_thrown, aI h_sending k_sending v_sending_n v_sending_a] H → va_D A [oX9 h_ v_divisor v_clocks v_wanted v_rowsOn v_level v_form v_outputs v_byteKept v_ins v_changed h_received h_marks v_receivedMany v_overrun h_sending v_sendingMany v_emptyUp v_lateUp v_lateCount h_waveHigh h_waveBeats v_waveMany v_lineIn v_sends v_sentCharacter v_sentForm v_sentBeat v_senderHigh v_takes v_sawHigh v_takenForm v_takenBeat v_takenBits v_takenParity v_beats v_out h_runHigh h_runBeats v_runs v_thrown, aI h_sending k_sending v_sending_n v_sending_a] → va_S A s.heap H locs → W p l e { frames := 3, cells := 0, slots := 0, locals := 63 } s m args below meth c H locs 0 0 (QV below D [(k_sending, .int)] (wX9_write k_sending h_ h_received h_marks h_sending h_waveHigh h_waveBeats h_runHigh h_runBeats v_ins v_overrun v_waveMany v_lineIn v_sends v_sentCharacter v_sentForm v_sentBeat v_senderHigh v_takes v_sawHigh v_takenForm v_takenBeat v_takenBits v_takenParity v_beats v_out v_runs v_sending_n u0) args s A) (F0 m 271 ls []) := by
    intro l3 l5 v_divisor v_clocks v_wanted v_rowsOn v_level v_form v_outputs v_byteKept v_changed v_receivedMany v_sendingMany v_emptyUp v_lateUp v_lateCount v_thrown v_sending_a H locs ls hF hl hP hD hS
    unfold F_X9_write_271 at hF
    refine lv_iload hx hb dX9_write_271 (lv_at hl 2 rfl) ?_
    refine lv_if_eq (tgt := 375) hx hb dX9_write_273 (by decide) (fun c6 => ?_) (fun c6 => ?_)
    · replace hF := bt_f (bI_0 c6) hF
      exact hret (v_divisor, v_clocks, v_wanted, v_rowsOn, v_level, v_form, v_outputs, v_byteKept, v_changed, v_receivedMany, v_sendingMany, v_emptyUp, v_lateUp, v_lateCount, v_thrown, v_sending_a) _ _ 375 _ hP hD hS hF dX9_write_375
    · replace hF := bt_t (bI_n0 c6) hF
      refine lv_iload_n hx hb dX9_write_276 rfl (lv_at hl 1 rfl) ?_
      refine lv_iconst (v := 2) hx hb dX9_write_277 (by decide) ?_
      refine lv_iand hx hb dX9_write_278 ?_
      refine lv_if_eq (tgt := 286) hx hb dX9_write_279 (by decide) (fun c7 => ?_) (fun c7 => ?_)
      · replace hF := it_t c7 hF
        exact J286 l3 v_divisor v_clocks v_wanted v_rowsOn v_level v_form v_outputs v_byteKept v_changed v_receivedMany v_sendingMany v_emptyUp v_lateUp v_lateCount v_thrown v_sending_a _ _ _ hF (lv_sub hl [0, 1] rfl) hP hD hS
      · replace hF := it_f c7 hF
        refine lv_aload_n hx hb dX9_write_282 rfl (lv_at hl 0 rfl) ?_
        obtain ⟨u8, hu8, hF⟩ := bd_el hF
        refine cVV (q0 := 0) (ci := 8) (As := []) (rest := []) (wr := [aI h_sending k_sending v_sending_n v_sending_a]) (ws' := [oX9 h_ v_divisor v_clocks v_wanted v_rowsOn v_level v_form v_outputs v_byteKept v_ins v_changed h_received h_marks u8.1 v_overrun h_sending v_sendingMany v_emptyUp u8.2.1 u8.2.2 h_waveHigh h_waveBeats v_waveMany v_lineIn v_sends v_sentCharacter v_sentForm v_sentBeat v_senderHigh v_takes v_sawHigh v_takenForm v_takenBeat v_takenBits v_takenParity v_beats v_out h_runHigh h_runBeats v_runs v_thrown, aI h_sending k_sending v_sending_n v_sending_a]) ⟨hx, hb, hml, hown, hts⟩ (mX9_clearReceived D h_ h_received h_marks h_sending h_waveHigh h_waveBeats h_runHigh h_runBeats v_divisor v_clocks v_wanted v_rowsOn v_level v_form v_outputs v_byteKept v_ins v_changed v_receivedMany v_overrun v_sendingMany v_emptyUp v_lateUp v_lateCount v_waveMany v_lineIn v_sends v_sentCharacter v_sentForm v_sentBeat v_senderHigh v_takes v_sawHigh v_takenForm v_takenBeat v_takenBits v_takenParity v_beats v_out v_runs v_thrown u8 hu8) (cwV 0 hts gX9_write_X9_clearReceived rfl rfl rfl (by decide +kernel) ⟨Nat.le_of_ble_eq_true rfl, Nat.le_of_ble_eq_true rfl⟩) hK hP hD hS hA [] [0] [1] [1, 0] rfl rfl rfl rfl rfl rfl rfl rfl rfl hl.1 rfl (Nat.le_of_ble_eq_true rfl) dX9_write_283 ⟨Nat.le_refl _, Nat.le_refl _⟩ (fun H locs hP hD hS => ?_)
        exact J286 l3 v_divisor v_clocks v_wanted v_rowsOn v_level v_form v_outputs v_byteKept v_changed u8.1 v_sendingMany v_emptyUp u8.2.1 u8.2.2 v_thrown v_sending_a _ _ _ hF (lv_sub hl [0, 1] rfl) hP hD hS
  have J245 : ∀ (s0 : Bool) (l3 : Int32) (v_divisor : Int32) (v_clocks : Int32) (v_wanted : Int32) (v_rowsOn : Bool) (v_level : Int32) (v_form : Int32) (v_outputs : Int32) (v_byteKept : Int32) (v_changed : Int32) (v_receivedMany : Int32) (v_sendingMany : Int32) (v_emptyUp : Bool) (v_lateUp : Bool) (v_lateCount : Int32) (v_thrown : Int32) (v_sending_a : Nat → Int32) (H : Heap) (locs : List Loc) (ls : Array Slot), F_X9_write_245 v_ins v_sending_n s0 l3 v_divisor v_clocks v_wanted v_rowsOn v_level v_form v_outputs v_byteKept v_changed v_receivedMany v_sendingMany v_emptyUp v_lateUp v_lateCount v_thrown v_sending_a = some u0 → lv_has ls 7 [(0, .ref h_), (3, .int l3)] → va_P D vwCl [oX9 h_ v_divisor v_clocks v_wanted v_rowsOn v_level v_form v_outputs v_byteKept v_ins v_changed h_received h_marks v_receivedMany v_overrun h_sending v_sendingMany v_emptyUp v_lateUp v_lateCount h_waveHigh h_waveBeats v_waveMany v_lineIn v_sends v_sentCharacter v_sentForm v_sentBeat v_senderHigh v_takes v_sawHigh v_takenForm v_takenBeat v_takenBits v_takenParity v_beats v_out h_runHigh h_runBeats v_runs v_thrown, aI h_sending k_sending v_sending_n v_sending_a] H → va_D A [oX9 h_ v_divisor v_clocks v_wanted v_rowsOn v_level v_form v_outputs v_byteKept v_ins v_changed h_received h_marks v_receivedMany v_overrun h_sending v_sendingMany v_emptyUp v_lateUp v_lateCount h_waveHigh h_waveBeats v_waveMany v_lineIn v_sends v_sentCharacter v_sentForm v_sentBeat v_senderHigh v_takes v_sawHigh v_takenForm v_takenBeat v_takenBits v_takenParity v_beats v_out h_runHigh h_runBeats v_runs v_thrown, aI h_sending k_sending v_sending_n v_sending_a] → va_S A s.heap H locs → W p l e { frames := 3, cells := 0, slots := 0, locals := 63 } s m args below meth c H locs 0 0 (QV below D [(k_sending, .int)] (wX9_write k_sending h_ h_received h_marks h_sending h_waveHigh h_waveBeats h_runHigh h_runBeats v_ins v_overrun v_waveMany v_lineIn v_sends v_sentCharacter v_sentForm v_sentBeat v_senderHigh v_takes v_sawHigh v_takenForm v_takenBeat v_takenBits v_takenParity v_beats v_out v_runs v_sending_n u0) args s A) (F0 m 245 ls [.int (bI s0)]) := by
    intro s0 l3 v_divisor v_clocks v_wanted v_rowsOn v_level v_form v_outputs v_byteKept v_changed v_receivedMany v_sendingMany v_emptyUp v_lateUp v_lateCount v_thrown v_sending_a H locs ls hF hl hP hD hS
    unfold F_X9_write_245 at hF
    refine lv_istore (lv' := [(5, .int (bI s0)), (0, .ref h_), (3, .int l3)]) hx hb dX9_write_245 hl (Nat.le_of_ble_eq_true rfl) rfl (fun ls hl => ?_)
    refine lv_iload hx hb dX9_write_247 (lv_at hl 0 rfl) ?_
    refine lv_aload_n hx hb dX9_write_249 rfl (lv_at hl 1 rfl) ?_
    refine va_get (D := D) (ci := 8) (v := .int (bI v_rowsOn)) (C := RX9) (T := TX9) (N := 40) hx hb hts i_X9 hown hK hP 0 rfl rfl 3 (Nat.le_of_ble_eq_true rfl) f_48 (fun _ h9 => h9) rfl dX9_write_250 ?_
    refine lv_icmp_eq (tgt := 271) hx hb dX9_write_253 (by decide) (fun c9 => ?_) (fun c9 => ?_)
    · replace hF := it_t c9 hF
      exact J271 l3 s0 v_divisor v_clocks v_wanted v_rowsOn v_level v_form v_outputs v_byteKept v_changed v_receivedMany v_sendingMany v_emptyUp v_lateUp v_lateCount v_thrown v_sending_a _ _ _ hF (lv_sub hl [1, 2, 0] rfl) hP hD hS
    · replace hF := it_f c9 hF
      refine lv_aload_n hx hb dX9_write_256 rfl (lv_at hl 1 rfl) ?_
      refine lv_iload hx hb dX9_write_257 (lv_at hl 0 rfl) ?_
      refine pf (ci := 8) (v := .int (bI s0)) (ty := .boolean) (C := RX9) (T := TX9) (N := 40) (ws' := [oX9 h_ v_divisor v_clocks v_wanted s0 v_level v_form v_outputs v_byteKept v_ins v_changed h_received h_marks v_receivedMany v_overrun h_sending v_sendingMany v_emptyUp v_lateUp v_lateCount h_waveHigh h_waveBeats v_waveMany v_lineIn v_sends v_sentCharacter v_sentForm v_sentBeat v_senderHigh v_takes v_sawHigh v_takenForm v_takenBeat v_takenBits v_takenParity v_beats v_out h_runHigh h_runBeats v_runs v_thrown, aI h_sending k_sending v_sending_n v_sending_a]) hx hb hts i_X9 tyX9_ok nmX9 hown hK hP hD hS 0 rfl rfl 3 (Nat.le_of_ble_eq_true rfl) f_48 rfl rfl (by decide +kernel) (nar_bI s0) (fit_bI s0) (Nat.le_of_ble_eq_true rfl) rfl dX9_write_259 (fun H locs hP hD hS => ?_)
      refine lv_aload_n hx hb dX9_write_262 rfl (lv_at hl 1 rfl) ?_
      obtain ⟨u10, hu10, hF⟩ := bd_el hF
      refine cVV (q0 := 0) (ci := 8) (As := []) (rest := []) (wr := [aI h_sending k_sending v_sending_n v_sending_a]) (ws' := [oX9 h_ v_divisor v_clocks v_wanted s0 v_level v_form v_outputs v_byteKept v_ins v_changed h_received h_marks u10.1 v_overrun h_sending v_sendingMany v_emptyUp u10.2.1 u10.2.2 h_waveHigh h_waveBeats v_waveMany v_lineIn v_sends v_sentCharacter v_sentForm v_sentBeat v_senderHigh v_takes v_sawHigh v_takenForm v_takenBeat v_takenBits v_takenParity v_beats v_out h_runHigh h_runBeats v_runs v_thrown, aI h_sending k_sending v_sending_n v_sending_a]) ⟨hx, hb, hml, hown, hts⟩ (mX9_clearReceived D h_ h_received h_marks h_sending h_waveHigh h_waveBeats h_runHigh h_runBeats v_divisor v_clocks v_wanted s0 v_level v_form v_outputs v_byteKept v_ins v_changed v_receivedMany v_overrun v_sendingMany v_emptyUp v_lateUp v_lateCount v_waveMany v_lineIn v_sends v_sentCharacter v_sentForm v_sentBeat v_senderHigh v_takes v_sawHigh v_takenForm v_takenBeat v_takenBits v_takenParity v_beats v_out v_runs v_thrown u10 hu10) (cwV 0 hts gX9_write_X9_clearReceived rfl rfl rfl (by decide +kernel) ⟨Nat.le_of_ble_eq_true rfl, Nat.le_of_ble_eq_true rfl⟩) hK hP hD hS hA [] [0] [1] [1, 0] rfl rfl rfl rfl rfl rfl rfl rfl rfl hl.1 rfl (Nat.le_of_ble_eq_true rfl) dX9_write_263 ⟨Nat.le_refl _, Nat.le_refl _⟩ (fun H locs hP hD hS => ?_)
      refine lv_aload_n hx hb dX9_write_266 rfl (lv_at hl 1 rfl) ?_
      refine lv_iconst (v := 0) hx hb dX9_write_267 (by decide) ?_
      refine pf (ci := 8) (v := .int 0) (ty := .int) (C := RX9) (T := TX9) (N := 40) (ws' := [oX9 h_ v_divisor v_clocks v_wanted s0 v_level v_form v_outputs v_byteKept v_ins v_changed h_received h_marks u10.1 v_overrun h_sending 0 v_emptyUp u10.2.1 u10.2.2 h_waveHigh h_waveBeats v_waveMany v_lineIn v_sends v_sentCharacter v_sentForm v_sentBeat v_senderHigh v_takes v_sawHigh v_takenForm v_takenBeat v_takenBits v_takenParity v_beats v_out h_runHigh h_runBeats v_runs v_thrown, aI h_sending k_sending v_sending_n v_sending_a]) hx hb hts i_X9 tyX9_ok nmX9 hown hK hP hD hS 0 rfl rfl 15 (Nat.le_of_ble_eq_true rfl) f_76 rfl rfl (by decide +kernel) rfl rfl (Nat.le_of_ble_eq_true rfl) rfl dX9_write_268 (fun H locs hP hD hS => ?_)
      exact J271 l3 s0 v_divisor v_clocks v_wanted s0 v_level v_form v_outputs v_byteKept v_changed u10.1 0 v_emptyUp u10.2.1 u10.2.2 v_thrown v_sending_a _ _ _ hF (lv_sub hl [1, 2, 0] rfl) hP hD hS
  unfold F_X9_write at hF
  refine lv_aload_n hx hb dX9_write_0 rfl (lv_at hl 0 rfl) ?_
  refine lv_iconst (v := 0) hx hb dX9_write_1 (by decide) ?_
  refine pf (ci := 8) (v := .int 0) (ty := .int) (C := RX9) (T := TX9) (N := 40) (ws' := [oX9 h_ v_divisor v_clocks v_wanted v_rowsOn v_level v_form v_outputs v_byteKept v_ins v_changed h_received h_marks v_receivedMany v_overrun h_sending v_sendingMany v_emptyUp v_lateUp v_lateCount h_waveHigh h_waveBeats v_waveMany v_lineIn v_sends v_sentCharacter v_sentForm v_sentBeat v_senderHigh v_takes v_sawHigh v_takenForm v_takenBeat v_takenBits v_takenParity v_beats v_out h_runHigh h_runBeats v_runs 0, aI h_sending k_sending v_sending_n v_sending_a]) hx hb hts i_X9 tyX9_ok nmX9 hown hK hP hD hS 0 rfl rfl 39 (Nat.le_of_ble_eq_true rfl) f_35 rfl rfl (by decide +kernel) rfl rfl (Nat.le_of_ble_eq_true rfl) rfl dX9_write_2 (fun H locs hP hD hS => ?_)
  refine lv_iload_n hx hb dX9_write_5 rfl (lv_at hl 1 rfl) ?_
  refine lv_if_lt (tgt := 15) hx hb dX9_write_6 (by decide) (fun c11 => ?_) (fun c11 => ?_)
  · replace hF := it_t c11 hF
    refine lv_aload_n hx hb dX9_write_15 rfl (lv_at hl 0 rfl) ?_
    refine lv_iconst (v := 1) hx hb dX9_write_16 (by decide) ?_
    refine pf (ci := 8) (v := .int 1) (ty := .int) (C := RX9) (T := TX9) (N := 40) (ws' := [oX9 h_ v_divisor v_clocks v_wanted v_rowsOn v_level v_form v_outputs v_byteKept v_ins v_changed h_received h_marks v_receivedMany v_overrun h_sending v_sendingMany v_emptyUp v_lateUp v_lateCount h_waveHigh h_waveBeats v_waveMany v_lineIn v_sends v_sentCharacter v_sentForm v_sentBeat v_senderHigh v_takes v_sawHigh v_takenForm v_takenBeat v_takenBits v_takenParity v_beats v_out h_runHigh h_runBeats v_runs 1, aI h_sending k_sending v_sending_n v_sending_a]) hx hb hts i_X9 tyX9_ok nmX9 hown hK hP hD hS 0 rfl rfl 39 (Nat.le_of_ble_eq_true rfl) f_35 rfl rfl (by decide +kernel) rfl rfl (Nat.le_of_ble_eq_true rfl) rfl dX9_write_17 (fun H locs hP hD hS => ?_)
    exact hret (v_divisor, v_clocks, v_wanted, v_rowsOn, v_level, v_form, v_outputs, v_byteKept, v_changed, v_receivedMany, v_sendingMany, v_emptyUp, v_lateUp, v_lateCount, 1, v_sending_a) _ _ 20 _ hP hD hS hF dX9_write_20
  · replace hF := it_f c11 hF
    refine lv_iload_n hx hb dX9_write_9 rfl (lv_at hl 1 rfl) ?_
    refine lv_bipush (v := 7) hx hb dX9_write_10 (by decide) ?_
    refine lv_icmp_le (tgt := 21) hx hb dX9_write_12 (by decide) (fun c12 => ?_) (fun c12 => ?_)
    · replace hF := it_t c12 hF
      refine lv_iload_n hx hb dX9_write_21 rfl (lv_at hl 2 rfl) ?_
      refine lv_sipush (v := 255) hx hb dX9_write_22 (by decide) ?_
      refine lv_iand hx hb dX9_write_25 ?_
      refine lv_topi (fun x13 ex13 => ?_)
      replace hF := lt1_x ex13 hF
      refine lv_istore_n (lv' := [(3, .int x13), (0, .ref h_), (1, .int p1), (2, .int p2)]) hx hb dX9_write_26 rfl hl (Nat.le_of_ble_eq_true rfl) rfl (fun ls hl => ?_)
      refine lv_aload_n hx hb dX9_write_27 rfl (lv_at hl 1 rfl) ?_
      obtain ⟨u14, hu14, hF⟩ := bd_el hF
      refine cVI (q0 := 0) (ci := 8) (As := []) (rest := []) (wr := [aI h_sending k_sending v_sending_n v_sending_a]) (ws' := [oX9 h_ v_divisor v_clocks v_wanted v_rowsOn v_level v_form v_outputs v_byteKept v_ins v_changed h_received h_marks v_receivedMany v_overrun h_sending v_sendingMany v_emptyUp v_lateUp v_lateCount h_waveHigh h_waveBeats v_waveMany v_lineIn v_sends v_sentCharacter v_sentForm v_sentBeat v_senderHigh v_takes v_sawHigh v_takenForm v_takenBeat v_takenBits v_takenParity v_beats v_out h_runHigh h_runBeats v_runs 0, aI h_sending k_sending v_sending_n v_sending_a]) (rv := u14) ⟨hx, hb, hml, hown, hts⟩ (mX9_lines D h_ h_received h_marks h_sending h_waveHigh h_waveBeats h_runHigh h_runBeats v_divisor v_clocks v_wanted v_rowsOn v_level v_form v_outputs v_byteKept v_ins v_changed v_receivedMany v_overrun v_sendingMany v_emptyUp v_lateUp v_lateCount v_waveMany v_lineIn v_sends v_sentCharacter v_sentForm v_sentBeat v_senderHigh v_takes v_sawHigh v_takenForm v_takenBeat v_takenBits v_takenParity v_beats v_out v_runs 0 u14 hu14) (cwV 0 hts gX9_write_X9_lines rfl rfl rfl (by decide +kernel) ⟨Nat.le_of_ble_eq_true rfl, Nat.le_of_ble_eq_true rfl⟩) hK hP hD hS hA [] [0] [1] [1, 0] rfl rfl rfl rfl rfl rfl rfl rfl rfl hl.1 rfl (Nat.le_of_ble_eq_true rfl) rfl dX9_write_28 ⟨Nat.le_refl _, Nat.le_refl _⟩ (fun H locs hP hD hS => ?_)
      refine lv_istore (lv' := [(4, .int u14), (3, .int x13), (0, .ref h_), (1, .int p1), (2, .int p2)]) hx hb dX9_write_31 hl (Nat.le_of_ble_eq_true rfl) rfl (fun ls hl => ?_)
      refine lv_iload_n hx hb dX9_write_33 rfl (lv_at hl 3 rfl) ?_
      by_cases c15 : p1 = 0
      · replace hF := it_t c15 hF
        refine lv_tableIn (tgt := 80) hx hb dX9_write_34 (by rw [c15]; decide) (by rw [c15]; decide) (by rw [c15]; rfl) (by decide) ?_
        refine lv_aload_n hx hb dX9_write_80 rfl (lv_at hl 2 rfl) ?_
        obtain ⟨u16, hu16, hF⟩ := bd_el hF
        refine cVI (q0 := 0) (ci := 8) (As := []) (rest := []) (wr := [aI h_sending k_sending v_sending_n v_sending_a]) (ws' := [oX9 h_ v_divisor v_clocks v_wanted v_rowsOn v_level v_form v_outputs v_byteKept v_ins v_changed h_received h_marks v_receivedMany v_overrun h_sending v_sendingMany v_emptyUp v_lateUp v_lateCount h_waveHigh h_waveBeats v_waveMany v_lineIn v_sends v_sentCharacter v_sentForm v_sentBeat v_senderHigh v_takes v_sawHigh v_takenForm v_takenBeat v_takenBits v_takenParity v_beats v_out h_runHigh h_runBeats v_runs 0, aI h_sending k_sending v_sending_n v_sending_a]) (rv := bI u16) ⟨hx, hb, hml, hown, hts⟩ (mX9_dlab D h_ h_received h_marks h_sending h_waveHigh h_waveBeats h_runHigh h_runBeats v_divisor v_clocks v_wanted v_rowsOn v_level v_form v_outputs v_byteKept v_ins v_changed v_receivedMany v_overrun v_sendingMany v_emptyUp v_lateUp v_lateCount v_waveMany v_lineIn v_sends v_sentCharacter v_sentForm v_sentBeat v_senderHigh v_takes v_sawHigh v_takenForm v_takenBeat v_takenBits v_takenParity v_beats v_out v_runs 0 u16 hu16) (cwV 0 hts gX9_write_X9_dlab rfl rfl rfl (by decide +kernel) ⟨Nat.le_of_ble_eq_true rfl, Nat.le_of_ble_eq_true rfl⟩) hK hP hD hS hA [] [0] [1] [1, 0] rfl rfl rfl rfl rfl rfl rfl rfl rfl hl.1 rfl (Nat.le_of_ble_eq_true rfl) rfl dX9_write_81 ⟨Nat.le_refl _, Nat.le_refl _⟩ (fun H locs hP hD hS => ?_)
        refine lv_if_eq (tgt := 108) hx hb dX9_write_84 (by decide) (fun c17 => ?_) (fun c17 => ?_)
        · replace hF := bt_f (bI_0 c17) hF
          refine lv_aload_n hx hb dX9_write_108 rfl (lv_at hl 2 rfl) ?_
          refine lv_iconst (v := 0) hx hb dX9_write_109 (by decide) ?_
          refine pf (ci := 8) (v := .int (bI false)) (ty := .boolean) (C := RX9) (T := TX9) (N := 40) (ws' := [oX9 h_ v_divisor v_clocks v_wanted v_rowsOn v_level v_form v_outputs v_byteKept v_ins v_changed h_received h_marks v_receivedMany v_overrun h_sending v_sendingMany false v_lateUp v_lateCount h_waveHigh h_waveBeats v_waveMany v_lineIn v_sends v_sentCharacter v_sentForm v_sentBeat v_senderHigh v_takes v_sawHigh v_takenForm v_takenBeat v_takenBits v_takenParity v_beats v_out h_runHigh h_runBeats v_runs 0, aI h_sending k_sending v_sending_n v_sending_a]) hx hb hts i_X9 tyX9_ok nmX9 hown hK hP hD hS 0 rfl rfl 16 (Nat.le_of_ble_eq_true rfl) f_79 rfl rfl (by decide +kernel) (nar_bI false) (fit_bI false) (Nat.le_of_ble_eq_true rfl) rfl dX9_write_110 (fun H locs hP hD hS => ?_)
          refine lv_aload_n hx hb dX9_write_113 rfl (lv_at hl 2 rfl) ?_
          refine va_get (D := D) (ci := 8) (v := .int v_sendingMany) (C := RX9) (T := TX9) (N := 40) hx hb hts i_X9 hown hK hP 0 rfl rfl 15 (Nat.le_of_ble_eq_true rfl) f_76 (fun _ h9 => h9) rfl dX9_write_114 ?_
          refine lv_aload_n hx hb dX9_write_117 rfl (lv_at hl 2 rfl) ?_
          obtain ⟨u18, hu18, hF⟩ := bd_el hF
          refine cVI (q0 := 0) (ci := 8) (As := []) (rest := [.int v_sendingMany]) (wr := [aI h_sending k_sending v_sending_n v_sending_a]) (ws' := [oX9 h_ v_divisor v_clocks v_wanted v_rowsOn v_level v_form v_outputs v_byteKept v_ins v_changed h_received h_marks v_receivedMany v_overrun h_sending v_sendingMany false v_lateUp v_lateCount h_waveHigh h_waveBeats v_waveMany v_lineIn v_sends v_sentCharacter v_sentForm v_sentBeat v_senderHigh v_takes v_sawHigh v_takenForm v_takenBeat v_takenBits v_takenParity v_beats v_out h_runHigh h_runBeats v_runs 0, aI h_sending k_sending v_sending_n v_sending_a]) (rv := u18) ⟨hx, hb, hml, hown, hts⟩ (mX9_room D h_ h_received h_marks h_sending h_waveHigh h_waveBeats h_runHigh h_runBeats v_divisor v_clocks v_wanted v_rowsOn v_level v_form v_outputs v_byteKept v_ins v_changed v_receivedMany v_overrun v_sendingMany false v_lateUp v_lateCount v_waveMany v_lineIn v_sends v_sentCharacter v_sentForm v_sentBeat v_senderHigh v_takes v_sawHigh v_takenForm v_takenBeat v_takenBits v_takenParity v_beats v_out v_runs 0 u18 hu18) (cwV 0 hts gX9_write_X9_room rfl rfl rfl (by decide +kernel) ⟨Nat.le_of_ble_eq_true rfl, Nat.le_of_ble_eq_true rfl⟩) hK hP hD hS hA [] [0] [1] [1, 0] rfl rfl rfl rfl rfl rfl rfl rfl rfl hl.1 rfl (Nat.le_of_ble_eq_true rfl) rfl dX9_write_118 ⟨Nat.le_refl _, Nat.le_refl _⟩ (fun H locs hP hD hS => ?_)
          refine lv_icmp_ge (tgt := 147) hx hb dX9_write_121 (by decide) (fun c19 => ?_) (fun c19 => ?_)
          · replace hF := it_t c19 hF
            refine lv_aload_n hx hb dX9_write_147 rfl (lv_at hl 2 rfl) ?_
            refine va_get (D := D) (ci := 8) (v := .int (bI v_rowsOn)) (C := RX9) (T := TX9) (N := 40) hx hb hts i_X9 hown hK hP 0 rfl rfl 3 (Nat.le_of_ble_eq_true rfl) f_48 (fun _ h9 => h9) rfl dX9_write_148 ?_
            refine lv_if_ne (tgt := 375) hx hb dX9_write_151 (by decide) (fun c20 => ?_) (fun c20 => ?_)
            · replace hF := bt_t (bI_n0 c20) hF
              exact hret (v_divisor, v_clocks, v_wanted, v_rowsOn, v_level, v_form, v_outputs, v_byteKept, v_changed, v_receivedMany, v_sendingMany, false, v_lateUp, v_lateCount, 0, v_sending_a) _ _ 375 _ hP hD hS hF dX9_write_375
            · replace hF := bt_f (bI_0 c20) hF
              refine lv_aload_n hx hb dX9_write_154 rfl (lv_at hl 2 rfl) ?_
              refine va_get (D := D) (ci := 8) (v := .ref h_sending) (C := RX9) (T := TX9) (N := 40) hx hb hts i_X9 hown hK hP 0 rfl rfl 14 (Nat.le_of_ble_eq_true rfl) f_16 (fun _ h9 => h9) rfl dX9_write_155 ?_
              refine lv_iconst (v := 0) hx hb dX9_write_158 (by decide) ?_
              refine lv_iload_n hx hb dX9_write_159 rfl (lv_at hl 1 rfl) ?_
              obtain ⟨g21, hF⟩ := gd_el hF
              refine ias (ws' := [oX9 h_ v_divisor v_clocks v_wanted v_rowsOn v_level v_form v_outputs v_byteKept v_ins v_changed h_received h_marks v_receivedMany v_overrun h_sending v_sendingMany false v_lateUp v_lateCount h_waveHigh h_waveBeats v_waveMany v_lineIn v_sends v_sentCharacter v_sentForm v_sentBeat v_senderHigh v_takes v_sawHigh v_takenForm v_takenBeat v_takenBits v_takenParity v_beats v_out h_runHigh h_runBeats v_runs 0, aI h_sending k_sending v_sending_n (upd v_sending_a ((0 : Int32).toNatClampNeg) x13)]) hx hb hK hP hD hS 1 0 rfl rfl g21 rfl dX9_write_160 (fun H locs hP hD hS => ?_)
              refine lv_goto (tgt := 375) hx hb dX9_write_161 (by decide) ?_
              exact hret (v_divisor, v_clocks, v_wanted, v_rowsOn, v_level, v_form, v_outputs, v_byteKept, v_changed, v_receivedMany, v_sendingMany, false, v_lateUp, v_lateCount, 0, upd v_sending_a ((0 : Int32).toNatClampNeg) x13) _ _ 375 _ hP hD hS hF dX9_write_375
          · replace hF := it_f c19 hF
            refine lv_aload_n hx hb dX9_write_124 rfl (lv_at hl 2 rfl) ?_
            refine va_get (D := D) (ci := 8) (v := .ref h_sending) (C := RX9) (T := TX9) (N := 40) hx hb hts i_X9 hown hK hP 0 rfl rfl 14 (Nat.le_of_ble_eq_true rfl) f_16 (fun _ h9 => h9) rfl dX9_write_125 ?_
            refine lv_aload_n hx hb dX9_write_128 rfl (lv_at hl 2 rfl) ?_
            refine va_get (D := D) (ci := 8) (v := .int v_sendingMany) (C := RX9) (T := TX9) (N := 40) hx hb hts i_X9 hown hK hP 0 rfl rfl 15 (Nat.le_of_ble_eq_true rfl) f_76 (fun _ h9 => h9) rfl dX9_write_129 ?_
            refine lv_iload_n hx hb dX9_write_132 rfl (lv_at hl 1 rfl) ?_
            obtain ⟨g22, hF⟩ := gd_el hF
            refine ias (ws' := [oX9 h_ v_divisor v_clocks v_wanted v_rowsOn v_level v_form v_outputs v_byteKept v_ins v_changed h_received h_marks v_receivedMany v_overrun h_sending v_sendingMany false v_lateUp v_lateCount h_waveHigh h_waveBeats v_waveMany v_lineIn v_sends v_sentCharacter v_sentForm v_sentBeat v_senderHigh v_takes v_sawHigh v_takenForm v_takenBeat v_takenBits v_takenParity v_beats v_out h_runHigh h_runBeats v_runs 0, aI h_sending k_sending v_sending_n (upd v_sending_a (v_sendingMany.toNatClampNeg) x13)]) hx hb hK hP hD hS 1 0 rfl rfl g22 rfl dX9_write_133 (fun H locs hP hD hS => ?_)
            refine lv_aload_n hx hb dX9_write_134 rfl (lv_at hl 2 rfl) ?_
            refine lv_dup hx hb dX9_write_135 rfl ?_
            refine va_get (D := D) (ci := 8) (v := .int v_sendingMany) (C := RX9) (T := TX9) (N := 40) hx hb hts i_X9 hown hK hP 0 rfl rfl 15 (Nat.le_of_ble_eq_true rfl) f_76 (fun _ h9 => h9) rfl dX9_write_136 ?_
            refine lv_iconst (v := 1) hx hb dX9_write_139 (by decide) ?_
            refine lv_iadd hx hb dX9_write_140 ?_
            refine lv_topi (fun x23 ex23 => ?_)
            replace hF := lt1_x ex23 hF
            refine pf (ci := 8) (v := .int x23) (ty := .int) (C := RX9) (T := TX9) (N := 40) (ws' := [oX9 h_ v_divisor v_clocks v_wanted v_rowsOn v_level v_form v_outputs v_byteKept v_ins v_changed h_received h_marks v_receivedMany v_overrun h_sending x23 false v_lateUp v_lateCount h_waveHigh h_waveBeats v_waveMany v_lineIn v_sends v_sentCharacter v_sentForm v_sentBeat v_senderHigh v_takes v_sawHigh v_takenForm v_takenBeat v_takenBits v_takenParity v_beats v_out h_runHigh h_runBeats v_runs 0, aI h_sending k_sending v_sending_n (upd v_sending_a (v_sendingMany.toNatClampNeg) x13)]) hx hb hts i_X9 tyX9_ok nmX9 hown hK hP hD hS 0 rfl rfl 15 (Nat.le_of_ble_eq_true rfl) f_76 rfl rfl (by decide +kernel) rfl rfl (Nat.le_of_ble_eq_true rfl) rfl dX9_write_141 (fun H locs hP hD hS => ?_)
            refine lv_goto (tgt := 375) hx hb dX9_write_144 (by decide) ?_
            exact hret (v_divisor, v_clocks, v_wanted, v_rowsOn, v_level, v_form, v_outputs, v_byteKept, v_changed, v_receivedMany, x23, false, v_lateUp, v_lateCount, 0, upd v_sending_a (v_sendingMany.toNatClampNeg) x13) _ _ 375 _ hP hD hS hF dX9_write_375
        · replace hF := bt_t (bI_n0 c17) hF
          refine lv_aload_n hx hb dX9_write_87 rfl (lv_at hl 2 rfl) ?_
          refine lv_aload_n hx hb dX9_write_88 rfl (lv_at hl 2 rfl) ?_
          refine va_get (D := D) (ci := 8) (v := .int v_divisor) (C := RX9) (T := TX9) (N := 40) hx hb hts i_X9 hown hK hP 0 rfl rfl 0 (Nat.le_of_ble_eq_true rfl) f_39 (fun _ h9 => h9) rfl dX9_write_89 ?_
          refine lv_ldc (v := 65280) hx hb hown c_150 dX9_write_92 ?_
          refine lv_iand hx hb dX9_write_94 ?_
          refine lv_iload_n hx hb dX9_write_95 rfl (lv_at hl 1 rfl) ?_
          refine lv_ior hx hb dX9_write_96 ?_
          refine lv_topi (fun x24 ex24 => ?_)
          replace hF := lt1_x ex24 hF
          refine pf (ci := 8) (v := .int x24) (ty := .int) (C := RX9) (T := TX9) (N := 40) (ws' := [oX9 h_ x24 v_clocks v_wanted v_rowsOn v_level v_form v_outputs v_byteKept v_ins v_changed h_received h_marks v_receivedMany v_overrun h_sending v_sendingMany v_emptyUp v_lateUp v_lateCount h_waveHigh h_waveBeats v_waveMany v_lineIn v_sends v_sentCharacter v_sentForm v_sentBeat v_senderHigh v_takes v_sawHigh v_takenForm v_takenBeat v_takenBits v_takenParity v_beats v_out h_runHigh h_runBeats v_runs 0, aI h_sending k_sending v_sending_n v_sending_a]) hx hb hts i_X9 tyX9_ok nmX9 hown hK hP hD hS 0 rfl rfl 0 (Nat.le_of_ble_eq_true rfl) f_39 rfl rfl (by decide +kernel) rfl rfl (Nat.le_of_ble_eq_true rfl) rfl dX9_write_97 (fun H locs hP hD hS => ?_)
          refine lv_aload_n hx hb dX9_write_100 rfl (lv_at hl 2 rfl) ?_
          refine lv_iconst (v := 0) hx hb dX9_write_101 (by decide) ?_
          refine pf (ci := 8) (v := .int 0) (ty := .int) (C := RX9) (T := TX9) (N := 40) (ws' := [oX9 h_ x24 0 v_wanted v_rowsOn v_level v_form v_outputs v_byteKept v_ins v_changed h_received h_marks v_receivedMany v_overrun h_sending v_sendingMany v_emptyUp v_lateUp v_lateCount h_waveHigh h_waveBeats v_waveMany v_lineIn v_sends v_sentCharacter v_sentForm v_sentBeat v_senderHigh v_takes v_sawHigh v_takenForm v_takenBeat v_takenBits v_takenParity v_beats v_out h_runHigh h_runBeats v_runs 0, aI h_sending k_sending v_sending_n v_sending_a]) hx hb hts i_X9 tyX9_ok nmX9 hown hK hP hD hS 0 rfl rfl 1 (Nat.le_of_ble_eq_true rfl) f_42 rfl rfl (by decide +kernel) rfl rfl (Nat.le_of_ble_eq_true rfl) rfl dX9_write_102 (fun H locs hP hD hS => ?_)
          refine lv_goto (tgt := 375) hx hb dX9_write_105 (by decide) ?_
          exact hret (x24, 0, v_wanted, v_rowsOn, v_level, v_form, v_outputs, v_byteKept, v_changed, v_receivedMany, v_sendingMany, v_emptyUp, v_lateUp, v_lateCount, 0, v_sending_a) _ _ 375 _ hP hD hS hF dX9_write_375
      · replace hF := it_f c15 hF
        by_cases c25 : p1 = 1
        · replace hF := it_t c25 hF
          refine lv_tableIn (tgt := 164) hx hb dX9_write_34 (by rw [c25]; decide) (by rw [c25]; decide) (by rw [c25]; rfl) (by decide) ?_
          refine lv_aload_n hx hb dX9_write_164 rfl (lv_at hl 2 rfl) ?_
          obtain ⟨u26, hu26, hF⟩ := bd_el hF
          refine cVI (q0 := 0) (ci := 8) (As := []) (rest := []) (wr := [aI h_sending k_sending v_sending_n v_sending_a]) (ws' := [oX9 h_ v_divisor v_clocks v_wanted v_rowsOn v_level v_form v_outputs v_byteKept v_ins v_changed h_received h_marks v_receivedMany v_overrun h_sending v_sendingMany v_emptyUp v_lateUp v_lateCount h_waveHigh h_waveBeats v_waveMany v_lineIn v_sends v_sentCharacter v_sentForm v_sentBeat v_senderHigh v_takes v_sawHigh v_takenForm v_takenBeat v_takenBits v_takenParity v_beats v_out h_runHigh h_runBeats v_runs 0, aI h_sending k_sending v_sending_n v_sending_a]) (rv := bI u26) ⟨hx, hb, hml, hown, hts⟩ (mX9_dlab D h_ h_received h_marks h_sending h_waveHigh h_waveBeats h_runHigh h_runBeats v_divisor v_clocks v_wanted v_rowsOn v_level v_form v_outputs v_byteKept v_ins v_changed v_receivedMany v_overrun v_sendingMany v_emptyUp v_lateUp v_lateCount v_waveMany v_lineIn v_sends v_sentCharacter v_sentForm v_sentBeat v_senderHigh v_takes v_sawHigh v_takenForm v_takenBeat v_takenBits v_takenParity v_beats v_out v_runs 0 u26 hu26) (cwV 0 hts gX9_write_X9_dlab rfl rfl rfl (by decide +kernel) ⟨Nat.le_of_ble_eq_true rfl, Nat.le_of_ble_eq_true rfl⟩) hK hP hD hS hA [] [0] [1] [1, 0] rfl rfl rfl rfl rfl rfl rfl rfl rfl hl.1 rfl (Nat.le_of_ble_eq_true rfl) rfl dX9_write_165 ⟨Nat.le_refl _, Nat.le_refl _⟩ (fun H locs hP hD hS => ?_)
          refine lv_if_eq (tgt := 196) hx hb dX9_write_168 (by decide) (fun c27 => ?_) (fun c27 => ?_)
          · replace hF := bt_f (bI_0 c27) hF
            refine lv_iload_n hx hb dX9_write_196 rfl (lv_at hl 1 rfl) ?_
            refine lv_iconst (v := 2) hx hb dX9_write_197 (by decide) ?_
            refine lv_iand hx hb dX9_write_198 ?_
            refine lv_if_eq (tgt := 223) hx hb dX9_write_199 (by decide) (fun c28 => ?_) (fun c28 => ?_)
            · replace hF := it_t c28 hF
              refine lv_aload_n hx hb dX9_write_223 rfl (lv_at hl 2 rfl) ?_
              refine lv_iload_n hx hb dX9_write_224 rfl (lv_at hl 1 rfl) ?_
              refine lv_bipush (v := 15) hx hb dX9_write_225 (by decide) ?_
              refine lv_iand hx hb dX9_write_227 ?_
              refine lv_topi (fun x29 ex29 => ?_)
              replace hF := lt1_x ex29 hF
              refine pf (ci := 8) (v := .int x29) (ty := .int) (C := RX9) (T := TX9) (N := 40) (ws' := [oX9 h_ v_divisor v_clocks x29 v_rowsOn v_level v_form v_outputs v_byteKept v_ins v_changed h_received h_marks v_receivedMany v_overrun h_sending v_sendingMany v_emptyUp v_lateUp v_lateCount h_waveHigh h_waveBeats v_waveMany v_lineIn v_sends v_sentCharacter v_sentForm v_sentBeat v_senderHigh v_takes v_sawHigh v_takenForm v_takenBeat v_takenBits v_takenParity v_beats v_out h_runHigh h_runBeats v_runs 0, aI h_sending k_sending v_sending_n v_sending_a]) hx hb hts i_X9 tyX9_ok nmX9 hown hK hP hD hS 0 rfl rfl 2 (Nat.le_of_ble_eq_true rfl) f_45 rfl rfl (by decide +kernel) rfl rfl (Nat.le_of_ble_eq_true rfl) rfl dX9_write_228 (fun H locs hP hD hS => ?_)
              refine lv_goto (tgt := 375) hx hb dX9_write_231 (by decide) ?_
              exact hret (v_divisor, v_clocks, x29, v_rowsOn, v_level, v_form, v_outputs, v_byteKept, v_changed, v_receivedMany, v_sendingMany, v_emptyUp, v_lateUp, v_lateCount, 0, v_sending_a) _ _ 375 _ hP hD hS hF dX9_write_375
            · replace hF := it_f c28 hF
              refine lv_aload_n hx hb dX9_write_202 rfl (lv_at hl 2 rfl) ?_
              refine va_get (D := D) (ci := 8) (v := .int v_wanted) (C := RX9) (T := TX9) (N := 40) hx hb hts i_X9 hown hK hP 0 rfl rfl 2 (Nat.le_of_ble_eq_true rfl) f_45 (fun _ h9 => h9) rfl dX9_write_203 ?_
              refine lv_iconst (v := 2) hx hb dX9_write_206 (by decide) ?_
              refine lv_iand hx hb dX9_write_207 ?_
              refine lv_if_ne (tgt := 223) hx hb dX9_write_208 (by decide) (fun c30 => ?_) (fun c30 => ?_)
              · replace hF := it_f c30 hF
                refine lv_aload_n hx hb dX9_write_223 rfl (lv_at hl 2 rfl) ?_
                refine lv_iload_n hx hb dX9_write_224 rfl (lv_at hl 1 rfl) ?_
                refine lv_bipush (v := 15) hx hb dX9_write_225 (by decide) ?_
                refine lv_iand hx hb dX9_write_227 ?_
                refine lv_topi (fun x31 ex31 => ?_)
                replace hF := lt1_x ex31 hF
                refine pf (ci := 8) (v := .int x31) (ty := .int) (C := RX9) (T := TX9) (N := 40) (ws' := [oX9 h_ v_divisor v_clocks x31 v_rowsOn v_level v_form v_outputs v_byteKept v_ins v_changed h_received h_marks v_receivedMany v_overrun h_sending v_sendingMany v_emptyUp v_lateUp v_lateCount h_waveHigh h_waveBeats v_waveMany v_lineIn v_sends v_sentCharacter v_sentForm v_sentBeat v_senderHigh v_takes v_sawHigh v_takenForm v_takenBeat v_takenBits v_takenParity v_beats v_out h_runHigh h_runBeats v_runs 0, aI h_sending k_sending v_sending_n v_sending_a]) hx hb hts i_X9 tyX9_ok nmX9 hown hK hP hD hS 0 rfl rfl 2 (Nat.le_of_ble_eq_true rfl) f_45 rfl rfl (by decide +kernel) rfl rfl (Nat.le_of_ble_eq_true rfl) rfl dX9_write_228 (fun H locs hP hD hS => ?_)
                refine lv_goto (tgt := 375) hx hb dX9_write_231 (by decide) ?_
                exact hret (v_divisor, v_clocks, x31, v_rowsOn, v_level, v_form, v_outputs, v_byteKept, v_changed, v_receivedMany, v_sendingMany, v_emptyUp, v_lateUp, v_lateCount, 0, v_sending_a) _ _ 375 _ hP hD hS hF dX9_write_375
              · replace hF := it_t c30 hF
                refine lv_aload_n hx hb dX9_write_211 rfl (lv_at hl 2 rfl) ?_
                refine va_get (D := D) (ci := 8) (v := .int v_sendingMany) (C := RX9) (T := TX9) (N := 40) hx hb hts i_X9 hown hK hP 0 rfl rfl 15 (Nat.le_of_ble_eq_true rfl) f_76 (fun _ h9 => h9) rfl dX9_write_212 ?_
                refine lv_if_ne (tgt := 223) hx hb dX9_write_215 (by decide) (fun c32 => ?_) (fun c32 => ?_)
                · replace hF := it_f c32 hF
                  refine lv_aload_n hx hb dX9_write_223 rfl (lv_at hl 2 rfl) ?_
                  refine lv_iload_n hx hb dX9_write_224 rfl (lv_at hl 1 rfl) ?_
                  refine lv_bipush (v := 15) hx hb dX9_write_225 (by decide) ?_
                  refine lv_iand hx hb dX9_write_227 ?_
                  refine lv_topi (fun x33 ex33 => ?_)
                  replace hF := lt1_x ex33 hF
                  refine pf (ci := 8) (v := .int x33) (ty := .int) (C := RX9) (T := TX9) (N := 40) (ws' := [oX9 h_ v_divisor v_clocks x33 v_rowsOn v_level v_form v_outputs v_byteKept v_ins v_changed h_received h_marks v_receivedMany v_overrun h_sending v_sendingMany v_emptyUp v_lateUp v_lateCount h_waveHigh h_waveBeats v_waveMany v_lineIn v_sends v_sentCharacter v_sentForm v_sentBeat v_senderHigh v_takes v_sawHigh v_takenForm v_takenBeat v_takenBits v_takenParity v_beats v_out h_runHigh h_runBeats v_runs 0, aI h_sending k_sending v_sending_n v_sending_a]) hx hb hts i_X9 tyX9_ok nmX9 hown hK hP hD hS 0 rfl rfl 2 (Nat.le_of_ble_eq_true rfl) f_45 rfl rfl (by decide +kernel) rfl rfl (Nat.le_of_ble_eq_true rfl) rfl dX9_write_228 (fun H locs hP hD hS => ?_)
                  refine lv_goto (tgt := 375) hx hb dX9_write_231 (by decide) ?_
                  exact hret (v_divisor, v_clocks, x33, v_rowsOn, v_level, v_form, v_outputs, v_byteKept, v_changed, v_receivedMany, v_sendingMany, v_emptyUp, v_lateUp, v_lateCount, 0, v_sending_a) _ _ 375 _ hP hD hS hF dX9_write_375
                · replace hF := it_t c32 hF
                  refine lv_aload_n hx hb dX9_write_218 rfl (lv_at hl 2 rfl) ?_
                  refine lv_iconst (v := 1) hx hb dX9_write_219 (by decide) ?_
                  refine pf (ci := 8) (v := .int (bI true)) (ty := .boolean) (C := RX9) (T := TX9) (N := 40) (ws' := [oX9 h_ v_divisor v_clocks v_wanted v_rowsOn v_level v_form v_outputs v_byteKept v_ins v_changed h_received h_marks v_receivedMany v_overrun h_sending v_sendingMany true v_lateUp v_lateCount h_waveHigh h_waveBeats v_waveMany v_lineIn v_sends v_sentCharacter v_sentForm v_sentBeat v_senderHigh v_takes v_sawHigh v_takenForm v_takenBeat v_takenBits v_takenParity v_beats v_out h_runHigh h_runBeats v_runs 0, aI h_sending k_sending v_sending_n v_sending_a]) hx hb hts i_X9 tyX9_ok nmX9 hown hK hP hD hS 0 rfl rfl 16 (Nat.le_of_ble_eq_true rfl) f_79 rfl rfl (by decide +kernel) (nar_bI true) (fit_bI true) (Nat.le_of_ble_eq_true rfl) rfl dX9_write_220 (fun H locs hP hD hS => ?_)
                  refine lv_aload_n hx hb dX9_write_223 rfl (lv_at hl 2 rfl) ?_
                  refine lv_iload_n hx hb dX9_write_224 rfl (lv_at hl 1 rfl) ?_
                  refine lv_bipush (v := 15) hx hb dX9_write_225 (by decide) ?_
                  refine lv_iand hx hb dX9_write_227 ?_
                  refine lv_topi (fun x34 ex34 => ?_)
                  replace hF := lt1_x ex34 hF
                  refine pf (ci := 8) (v := .int x34) (ty := .int) (C := RX9) (T := TX9) (N := 40) (ws' := [oX9 h_ v_divisor v_clocks x34 v_rowsOn v_level v_form v_outputs v_byteKept v_ins v_changed h_received h_marks v_receivedMany v_overrun h_sending v_sendingMany true v_lateUp v_lateCount h_waveHigh h_waveBeats v_waveMany v_lineIn v_sends v_sentCharacter v_sentForm v_sentBeat v_senderHigh v_takes v_sawHigh v_takenForm v_takenBeat v_takenBits v_takenParity v_beats v_out h_runHigh h_runBeats v_runs 0, aI h_sending k_sending v_sending_n v_sending_a]) hx hb hts i_X9 tyX9_ok nmX9 hown hK hP hD hS 0 rfl rfl 2 (Nat.le_of_ble_eq_true rfl) f_45 rfl rfl (by decide +kernel) rfl rfl (Nat.le_of_ble_eq_true rfl) rfl dX9_write_228 (fun H locs hP hD hS => ?_)
                  refine lv_goto (tgt := 375) hx hb dX9_write_231 (by decide) ?_
                  exact hret (v_divisor, v_clocks, x34, v_rowsOn, v_level, v_form, v_outputs, v_byteKept, v_changed, v_receivedMany, v_sendingMany, true, v_lateUp, v_lateCount, 0, v_sending_a) _ _ 375 _ hP hD hS hF dX9_write_375
          · replace hF := bt_t (bI_n0 c27) hF
            refine lv_aload_n hx hb dX9_write_171 rfl (lv_at hl 2 rfl) ?_
            refine lv_aload_n hx hb dX9_write_172 rfl (lv_at hl 2 rfl) ?_
            refine va_get (D := D) (ci := 8) (v := .int v_divisor) (C := RX9) (T := TX9) (N := 40) hx hb hts i_X9 hown hK hP 0 rfl rfl 0 (Nat.le_of_ble_eq_true rfl) f_39 (fun _ h9 => h9) rfl dX9_write_173 ?_
            refine lv_sipush (v := 255) hx hb dX9_write_176 (by decide) ?_
            refine lv_iand hx hb dX9_write_179 ?_
            refine lv_iload_n hx hb dX9_write_180 rfl (lv_at hl 1 rfl) ?_
            refine lv_bipush (v := 8) hx hb dX9_write_181 (by decide) ?_
            refine lv_ishl hx hb dX9_write_183 ?_
            refine lv_ior hx hb dX9_write_184 ?_
            refine lv_topi (fun x35 ex35 => ?_)
            replace hF := lt1_x ex35 hF
            refine pf (ci := 8) (v := .int x35) (ty := .int) (C := RX9) (T := TX9) (N := 40) (ws' := [oX9 h_ x35 v_clocks v_wanted v_rowsOn v_level v_form v_outputs v_byteKept v_ins v_changed h_received h_marks v_receivedMany v_overrun h_sending v_sendingMany v_emptyUp v_lateUp v_lateCount h_waveHigh h_waveBeats v_waveMany v_lineIn v_sends v_sentCharacter v_sentForm v_sentBeat v_senderHigh v_takes v_sawHigh v_takenForm v_takenBeat v_takenBits v_takenParity v_beats v_out h_runHigh h_runBeats v_runs 0, aI h_sending k_sending v_sending_n v_sending_a]) hx hb hts i_X9 tyX9_ok nmX9 hown hK hP hD hS 0 rfl rfl 0 (Nat.le_of_ble_eq_true rfl) f_39 rfl rfl (by decide +kernel) rfl rfl (Nat.le_of_ble_eq_true rfl) rfl dX9_write_185 (fun H locs hP hD hS => ?_)
            refine lv_aload_n hx hb dX9_write_188 rfl (lv_at hl 2 rfl) ?_
            refine lv_iconst (v := 0) hx hb dX9_write_189 (by decide) ?_
            refine pf (ci := 8) (v := .int 0) (ty := .int) (C := RX9) (T := TX9) (N := 40) (ws' := [oX9 h_ x35 0 v_wanted v_rowsOn v_level v_form v_outputs v_byteKept v_ins v_changed h_received h_marks v_receivedMany v_overrun h_sending v_sendingMany v_emptyUp v_lateUp v_lateCount h_waveHigh h_waveBeats v_waveMany v_lineIn v_sends v_sentCharacter v_sentForm v_sentBeat v_senderHigh v_takes v_sawHigh v_takenForm v_takenBeat v_takenBits v_takenParity v_beats v_out h_runHigh h_runBeats v_runs 0, aI h_sending k_sending v_sending_n v_sending_a]) hx hb hts i_X9 tyX9_ok nmX9 hown hK hP hD hS 0 rfl rfl 1 (Nat.le_of_ble_eq_true rfl) f_42 rfl rfl (by decide +kernel) rfl rfl (Nat.le_of_ble_eq_true rfl) rfl dX9_write_190 (fun H locs hP hD hS => ?_)
            refine lv_goto (tgt := 375) hx hb dX9_write_193 (by decide) ?_
            exact hret (x35, 0, v_wanted, v_rowsOn, v_level, v_form, v_outputs, v_byteKept, v_changed, v_receivedMany, v_sendingMany, v_emptyUp, v_lateUp, v_lateCount, 0, v_sending_a) _ _ 375 _ hP hD hS hF dX9_write_375
        · replace hF := it_f c25 hF
          by_cases c36 : p1 = 2
          · replace hF := it_t c36 hF
            refine lv_tableIn (tgt := 234) hx hb dX9_write_34 (by rw [c36]; decide) (by rw [c36]; decide) (by rw [c36]; rfl) (by decide) ?_
            refine lv_iload_n hx hb dX9_write_234 rfl (lv_at hl 1 rfl) ?_
            refine lv_iconst (v := 1) hx hb dX9_write_235 (by decide) ?_
            refine lv_iand hx hb dX9_write_236 ?_
            refine lv_if_eq (tgt := 244) hx hb dX9_write_237 (by decide) (fun c37 => ?_) (fun c37 => ?_)
            · replace hF := it_t c37 hF
              refine lv_iconst (v := 0) hx hb dX9_write_244 (by decide) ?_
              exact J245 false x13 v_divisor v_clocks v_wanted v_rowsOn v_level v_form v_outputs v_byteKept v_changed v_receivedMany v_sendingMany v_emptyUp v_lateUp v_lateCount 0 v_sending_a _ _ _ hF (lv_sub hl [2, 1] rfl) hP hD hS
            · replace hF := it_f c37 hF
              refine lv_iconst (v := 1) hx hb dX9_write_240 (by decide) ?_
              refine lv_goto (tgt := 245) hx hb dX9_write_241 (by decide) ?_
              exact J245 true x13 v_divisor v_clocks v_wanted v_rowsOn v_level v_form v_outputs v_byteKept v_changed v_receivedMany v_sendingMany v_emptyUp v_lateUp v_lateCount 0 v_sending_a _ _ _ hF (lv_sub hl [2, 1] rfl) hP hD hS
          · replace hF := it_f c36 hF
            by_cases c38 : p1 = 3
            · replace hF := it_t c38 hF
              refine lv_tableIn (tgt := 342) hx hb dX9_write_34 (by rw [c38]; decide) (by rw [c38]; decide) (by rw [c38]; rfl) (by decide) ?_
              refine lv_aload_n hx hb dX9_write_342 rfl (lv_at hl 2 rfl) ?_
              refine lv_iload_n hx hb dX9_write_343 rfl (lv_at hl 1 rfl) ?_
              refine pf (ci := 8) (v := .int x13) (ty := .int) (C := RX9) (T := TX9) (N := 40) (ws' := [oX9 h_ v_divisor v_clocks v_wanted v_rowsOn v_level x13 v_outputs v_byteKept v_ins v_changed h_received h_marks v_receivedMany v_overrun h_sending v_sendingMany v_emptyUp v_lateUp v_lateCount h_waveHigh h_waveBeats v_waveMany v_lineIn v_sends v_sentCharacter v_sentForm v_sentBeat v_senderHigh v_takes v_sawHigh v_takenForm v_takenBeat v_takenBits v_takenParity v_beats v_out h_runHigh h_runBeats v_runs 0, aI h_sending k_sending v_sending_n v_sending_a]) hx hb hts i_X9 tyX9_ok nmX9 hown hK hP hD hS 0 rfl rfl 5 (Nat.le_of_ble_eq_true rfl) f_55 rfl rfl (by decide +kernel) rfl rfl (Nat.le_of_ble_eq_true rfl) rfl dX9_write_344 (fun H locs hP hD hS => ?_)
              refine lv_goto (tgt := 375) hx hb dX9_write_347 (by decide) ?_
              exact hret (v_divisor, v_clocks, v_wanted, v_rowsOn, v_level, x13, v_outputs, v_byteKept, v_changed, v_receivedMany, v_sendingMany, v_emptyUp, v_lateUp, v_lateCount, 0, v_sending_a) _ _ 375 _ hP hD hS hF dX9_write_375
            · replace hF := it_f c38 hF
              by_cases c39 : p1 = 4
              · replace hF := it_t c39 hF
                refine lv_tableIn (tgt := 350) hx hb dX9_write_34 (by rw [c39]; decide) (by rw [c39]; decide) (by rw [c39]; rfl) (by decide) ?_
                refine lv_aload_n hx hb dX9_write_350 rfl (lv_at hl 2 rfl) ?_
                refine lv_iload_n hx hb dX9_write_351 rfl (lv_at hl 1 rfl) ?_
                refine lv_bipush (v := 31) hx hb dX9_write_352 (by decide) ?_
                refine lv_iand hx hb dX9_write_354 ?_
                refine lv_topi (fun x40 ex40 => ?_)
                replace hF := lt1_x ex40 hF
                refine pf (ci := 8) (v := .int x40) (ty := .int) (C := RX9) (T := TX9) (N := 40) (ws' := [oX9 h_ v_divisor v_clocks v_wanted v_rowsOn v_level v_form x40 v_byteKept v_ins v_changed h_received h_marks v_receivedMany v_overrun h_sending v_sendingMany v_emptyUp v_lateUp v_lateCount h_waveHigh h_waveBeats v_waveMany v_lineIn v_sends v_sentCharacter v_sentForm v_sentBeat v_senderHigh v_takes v_sawHigh v_takenForm v_takenBeat v_takenBits v_takenParity v_beats v_out h_runHigh h_runBeats v_runs 0, aI h_sending k_sending v_sending_n v_sending_a]) hx hb hts i_X9 tyX9_ok nmX9 hown hK hP hD hS 0 rfl rfl 6 (Nat.le_of_ble_eq_true rfl) f_58 rfl rfl (by decide +kernel) rfl rfl (Nat.le_of_ble_eq_true rfl) rfl dX9_write_355 (fun H locs hP hD hS => ?_)
                refine lv_aload_n hx hb dX9_write_358 rfl (lv_at hl 2 rfl) ?_
                refine lv_iload hx hb dX9_write_359 (lv_at hl 0 rfl) ?_
                obtain ⟨u41, hu41, hF⟩ := bd_el hF
                refine cVV (q0 := 0) (ci := 8) (As := [.int u14]) (rest := []) (wr := [aI h_sending k_sending v_sending_n v_sending_a]) (ws' := [oX9 h_ v_divisor v_clocks v_wanted v_rowsOn v_level v_form x40 v_byteKept v_ins u41 h_received h_marks v_receivedMany v_overrun h_sending v_sendingMany v_emptyUp v_lateUp v_lateCount h_waveHigh h_waveBeats v_waveMany v_lineIn v_sends v_sentCharacter v_sentForm v_sentBeat v_senderHigh v_takes v_sawHigh v_takenForm v_takenBeat v_takenBits v_takenParity v_beats v_out h_runHigh h_runBeats v_runs 0, aI h_sending k_sending v_sending_n v_sending_a]) ⟨hx, hb, hml, hown, hts⟩ (mX9_notice D h_ h_received h_marks h_sending h_waveHigh h_waveBeats h_runHigh h_runBeats v_divisor v_clocks v_wanted v_rowsOn v_level v_form x40 v_byteKept v_ins v_changed v_receivedMany v_overrun v_sendingMany v_emptyUp v_lateUp v_lateCount v_waveMany v_lineIn v_sends v_sentCharacter v_sentForm v_sentBeat v_senderHigh v_takes v_sawHigh v_takenForm v_takenBeat v_takenBits v_takenParity v_beats v_out v_runs 0 u14 u41 hu41) (cwV 1 hts gX9_write_X9_notice rfl rfl rfl (by decide +kernel) ⟨Nat.le_of_ble_eq_true rfl, Nat.le_of_ble_eq_true rfl⟩) hK hP hD hS hA [] [0] [1] [1, 0] rfl rfl rfl rfl rfl rfl rfl rfl rfl hl.1 rfl (Nat.le_of_ble_eq_true rfl) dX9_write_361 ⟨Nat.le_refl _, Nat.le_refl _⟩ (fun H locs hP hD hS => ?_)
                refine lv_goto (tgt := 375) hx hb dX9_write_364 (by decide) ?_
                exact hret (v_divisor, v_clocks, v_wanted, v_rowsOn, v_level, v_form, x40, v_byteKept, u41, v_receivedMany, v_sendingMany, v_emptyUp, v_lateUp, v_lateCount, 0, v_sending_a) _ _ 375 _ hP hD hS hF dX9_write_375
              · replace hF := it_f c39 hF
                by_cases c42 : p1 = 5
                · replace hF := it_t c42 hF
                  refine lv_tableIn (tgt := 375) hx hb dX9_write_34 (by rw [c42]; decide) (by rw [c42]; decide) (by rw [c42]; rfl) (by decide) ?_
                  exact hret (v_divisor, v_clocks, v_wanted, v_rowsOn, v_level, v_form, v_outputs, v_byteKept, v_changed, v_receivedMany, v_sendingMany, v_emptyUp, v_lateUp, v_lateCount, 0, v_sending_a) _ _ 375 _ hP hD hS hF dX9_write_375
                · replace hF := it_f c42 hF
                  by_cases c43 : p1 = 6
                  · replace hF := it_t c43 hF
                    refine lv_tableIn (tgt := 375) hx hb dX9_write_34 (by rw [c43]; decide) (by rw [c43]; decide) (by rw [c43]; rfl) (by decide) ?_
                    exact hret (v_divisor, v_clocks, v_wanted, v_rowsOn, v_level, v_form, v_outputs, v_byteKept, v_changed, v_receivedMany, v_sendingMany, v_emptyUp, v_lateUp, v_lateCount, 0, v_sending_a) _ _ 375 _ hP hD hS hF dX9_write_375
                  · replace hF := it_f c43 hF
                    by_cases c44 : p1 = 7
                    · replace hF := it_t c44 hF
                      refine lv_tableIn (tgt := 367) hx hb dX9_write_34 (by rw [c44]; decide) (by rw [c44]; decide) (by rw [c44]; rfl) (by decide) ?_
                      refine lv_aload_n hx hb dX9_write_367 rfl (lv_at hl 2 rfl) ?_
                      refine lv_iload_n hx hb dX9_write_368 rfl (lv_at hl 1 rfl) ?_
                      refine pf (ci := 8) (v := .int x13) (ty := .int) (C := RX9) (T := TX9) (N := 40) (ws' := [oX9 h_ v_divisor v_clocks v_wanted v_rowsOn v_level v_form v_outputs x13 v_ins v_changed h_received h_marks v_receivedMany v_overrun h_sending v_sendingMany v_emptyUp v_lateUp v_lateCount h_waveHigh h_waveBeats v_waveMany v_lineIn v_sends v_sentCharacter v_sentForm v_sentBeat v_senderHigh v_takes v_sawHigh v_takenForm v_takenBeat v_takenBits v_takenParity v_beats v_out h_runHigh h_runBeats v_runs 0, aI h_sending k_sending v_sending_n v_sending_a]) hx hb hts i_X9 tyX9_ok nmX9 hown hK hP hD hS 0 rfl rfl 7 (Nat.le_of_ble_eq_true rfl) f_61 rfl rfl (by decide +kernel) rfl rfl (Nat.le_of_ble_eq_true rfl) rfl dX9_write_369 (fun H locs hP hD hS => ?_)
                      refine lv_goto (tgt := 375) hx hb dX9_write_372 (by decide) ?_
                      exact hret (v_divisor, v_clocks, v_wanted, v_rowsOn, v_level, v_form, v_outputs, x13, v_changed, v_receivedMany, v_sendingMany, v_emptyUp, v_lateUp, v_lateCount, 0, v_sending_a) _ _ 375 _ hP hD hS hF dX9_write_375
                    · replace hF := it_f c44 hF
                      refine lv_tableOut (tgt := 375) hx hb dX9_write_34 (tb_out8 c15 c25 c36 c38 c39 c42 c43 c44) (by decide) ?_
                      exact hret (v_divisor, v_clocks, v_wanted, v_rowsOn, v_level, v_form, v_outputs, v_byteKept, v_changed, v_receivedMany, v_sendingMany, v_emptyUp, v_lateUp, v_lateCount, 0, v_sending_a) _ _ 375 _ hP hD hS hF dX9_write_375
    · replace hF := it_f c12 hF
      refine lv_aload_n hx hb dX9_write_15 rfl (lv_at hl 0 rfl) ?_
      refine lv_iconst (v := 1) hx hb dX9_write_16 (by decide) ?_
      refine pf (ci := 8) (v := .int 1) (ty := .int) (C := RX9) (T := TX9) (N := 40) (ws' := [oX9 h_ v_divisor v_clocks v_wanted v_rowsOn v_level v_form v_outputs v_byteKept v_ins v_changed h_received h_marks v_receivedMany v_overrun h_sending v_sendingMany v_emptyUp v_lateUp v_lateCount h_waveHigh h_waveBeats v_waveMany v_lineIn v_sends v_sentCharacter v_sentForm v_sentBeat v_senderHigh v_takes v_sawHigh v_takenForm v_takenBeat v_takenBits v_takenParity v_beats v_out h_runHigh h_runBeats v_runs 1, aI h_sending k_sending v_sending_n v_sending_a]) hx hb hts i_X9 tyX9_ok nmX9 hown hK hP hD hS 0 rfl rfl 39 (Nat.le_of_ble_eq_true rfl) f_35 rfl rfl (by decide +kernel) rfl rfl (Nat.le_of_ble_eq_true rfl) rfl dX9_write_17 (fun H locs hP hD hS => ?_)
      exact hret (v_divisor, v_clocks, v_wanted, v_rowsOn, v_level, v_form, v_outputs, v_byteKept, v_changed, v_receivedMany, v_sendingMany, v_emptyUp, v_lateUp, v_lateCount, 1, v_sending_a) _ _ 20 _ hP hD hS hF dX9_write_20
