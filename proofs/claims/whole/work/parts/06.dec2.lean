set_option maxRecDepth 20000 in
theorem ggX9_item_X9_in : GoodIn wsX9_item wsX9_in := goodIn_r _ [32] (by decide +kernel) (by decide +kernel)
set_option maxRecDepth 20000 in
theorem gX9_item_X9_in : GoodIn wsX9_item (va_wsS RX9 101 yX9_in wsX9_in) := goodIn_app (goodIn_of _ (by decide +kernel)) ggX9_item_X9_in
set_option maxRecDepth 20000 in
theorem ggX9_item_X9_addLook : GoodIn wsX9_item wsX9_addLook := goodIn_r _ [36, 37, 12, 38, 39, 40, 41, 42, 43, 44, 45, 46, 47, 48, 49, 50, 51, 52, 53, 54, 55, 56, 57, 58, 59, 60, 61, 62, 63, 64, 65, 66, 67, 68, 69, 70, 71, 72] (by decide +kernel) (by decide +kernel)
set_option maxRecDepth 20000 in
theorem gX9_item_X9_addLook : GoodIn wsX9_item (wsV RX9 95 RX9 yX9_addLook wsX9_addLook) := goodIn_app (goodIn_of _ (by decide +kernel)) ggX9_item_X9_addLook
theorem dX9_item_0 : decode cX9_item 0 = .ok (.aload_n 0, 1) := by decide +kernel
theorem dX9_item_1 : decode cX9_item 1 = .ok (.aload_n 0, 1) := by decide +kernel
theorem dX9_item_2 : decode cX9_item 2 = .ok (.getfield 111, 3) := by decide +kernel
theorem dX9_item_5 : decode cX9_item 5 = .ok (.invokevirtual 114, 3) := by decide +kernel
theorem dX9_item_8 : decode cX9_item 8 = .ok (.istore_n 1, 1) := by decide +kernel
theorem dX9_item_9 : decode cX9_item 9 = .ok (.aload_n 0, 1) := by decide +kernel
theorem dX9_item_10 : decode cX9_item 10 = .ok (.dup, 1) := by decide +kernel
theorem dX9_item_11 : decode cX9_item 11 = .ok (.getfield 111, 3) := by decide +kernel
theorem dX9_item_14 : decode cX9_item 14 = .ok (.iconst 1, 1) := by decide +kernel
theorem dX9_item_15 : decode cX9_item 15 = .ok (.iadd, 1) := by decide +kernel
theorem dX9_item_16 : decode cX9_item 16 = .ok (.putfield 111, 3) := by decide +kernel
theorem dX9_item_19 : decode cX9_item 19 = .ok (.iload_n 1, 1) := by decide +kernel
theorem dX9_item_20 : decode cX9_item 20 = .ok (.tableswitch 456 108 119 #[291, 456, 456, 456, 64, 456, 456, 164, 415, 456, 456, 380], 64) := by decide +kernel
theorem dX9_item_84 : decode cX9_item 84 = .ok (.aload_n 0, 1) := by decide +kernel
theorem dX9_item_85 : decode cX9_item 85 = .ok (.iconst 2, 1) := by decide +kernel
theorem dX9_item_86 : decode cX9_item 86 = .ok (.invokevirtual 124, 3) := by decide +kernel
theorem dX9_item_89 : decode cX9_item 89 = .ok (.ifCond .eq 41, 3) := by decide +kernel
theorem dX9_item_92 : decode cX9_item 92 = .ok (.aload_n 0, 1) := by decide +kernel
theorem dX9_item_93 : decode cX9_item 93 = .ok (.getfield 13, 3) := by decide +kernel
theorem dX9_item_96 : decode cX9_item 96 = .ok (.iconst 1, 1) := by decide +kernel
theorem dX9_item_97 : decode cX9_item 97 = .ok (.iaload, 1) := by decide +kernel
theorem dX9_item_98 : decode cX9_item 98 = .ok (.bipush 9, 2) := by decide +kernel
theorem dX9_item_100 : decode cX9_item 100 = .ok (.if_icmp .eq 30, 3) := by decide +kernel
theorem dX9_item_103 : decode cX9_item 103 = .ok (.aload_n 0, 1) := by decide +kernel
theorem dX9_item_104 : decode cX9_item 104 = .ok (.getfield 67, 3) := by decide +kernel
theorem dX9_item_107 : decode cX9_item 107 = .ok (.iconst 0, 1) := by decide +kernel
theorem dX9_item_108 : decode cX9_item 108 = .ok (.iaload, 1) := by decide +kernel
theorem dX9_item_109 : decode cX9_item 109 = .ok (.iconst 5, 1) := by decide +kernel
theorem dX9_item_110 : decode cX9_item 110 = .ok (.if_icmp .gt 20, 3) := by decide +kernel
theorem dX9_item_113 : decode cX9_item 113 = .ok (.aload_n 0, 1) := by decide +kernel
theorem dX9_item_114 : decode cX9_item 114 = .ok (.getfield 67, 3) := by decide +kernel
theorem dX9_item_117 : decode cX9_item 117 = .ok (.iconst 1, 1) := by decide +kernel
theorem dX9_item_118 : decode cX9_item 118 = .ok (.iaload, 1) := by decide +kernel
theorem dX9_item_119 : decode cX9_item 119 = .ok (.i2l, 1) := by decide +kernel
theorem dX9_item_120 : decode cX9_item 120 = .ok (.lconst 1, 1) := by decide +kernel
theorem dX9_item_121 : decode cX9_item 121 = .ok (.ldc2_w 128, 3) := by decide +kernel
theorem dX9_item_124 : decode cX9_item 124 = .ok (.invokestatic 101, 3) := by decide +kernel
theorem dX9_item_127 : decode cX9_item 127 = .ok (.ifCond .ne 5, 3) := by decide +kernel
theorem dX9_item_130 : decode cX9_item 130 = .ok (.iconst 0, 1) := by decide +kernel
theorem dX9_item_131 : decode cX9_item 131 = .ok (.ireturn, 1) := by decide +kernel
theorem dX9_item_132 : decode cX9_item 132 = .ok (.aload_n 0, 1) := by decide +kernel
theorem dX9_item_133 : decode cX9_item 133 = .ok (.getfield 16, 3) := by decide +kernel
theorem dX9_item_136 : decode cX9_item 136 = .ok (.bipush 9, 2) := by decide +kernel
theorem dX9_item_138 : decode cX9_item 138 = .ok (.aload_n 0, 1) := by decide +kernel
theorem dX9_item_139 : decode cX9_item 139 = .ok (.getfield 13, 3) := by decide +kernel
theorem dX9_item_142 : decode cX9_item 142 = .ok (.iconst 1, 1) := by decide +kernel
theorem dX9_item_143 : decode cX9_item 143 = .ok (.iaload, 1) := by decide +kernel
theorem dX9_item_144 : decode cX9_item 144 = .ok (.iadd, 1) := by decide +kernel
theorem dX9_item_145 : decode cX9_item 145 = .ok (.aload_n 0, 1) := by decide +kernel
theorem dX9_item_146 : decode cX9_item 146 = .ok (.getfield 67, 3) := by decide +kernel
theorem dX9_item_149 : decode cX9_item 149 = .ok (.iconst 0, 1) := by decide +kernel
theorem dX9_item_150 : decode cX9_item 150 = .ok (.iaload, 1) := by decide +kernel
theorem dX9_item_151 : decode cX9_item 151 = .ok (.iastore, 1) := by decide +kernel
theorem dX9_item_152 : decode cX9_item 152 = .ok (.aload_n 0, 1) := by decide +kernel
theorem dX9_item_153 : decode cX9_item 153 = .ok (.getfield 19, 3) := by decide +kernel
theorem dX9_item_156 : decode cX9_item 156 = .ok (.bipush 9, 2) := by decide +kernel
theorem dX9_item_158 : decode cX9_item 158 = .ok (.aload_n 0, 1) := by decide +kernel
theorem dX9_item_159 : decode cX9_item 159 = .ok (.getfield 13, 3) := by decide +kernel
theorem dX9_item_162 : decode cX9_item 162 = .ok (.iconst 1, 1) := by decide +kernel
theorem dX9_item_163 : decode cX9_item 163 = .ok (.iaload, 1) := by decide +kernel
theorem dX9_item_164 : decode cX9_item 164 = .ok (.iadd, 1) := by decide +kernel
theorem dX9_item_165 : decode cX9_item 165 = .ok (.aload_n 0, 1) := by decide +kernel
theorem dX9_item_166 : decode cX9_item 166 = .ok (.getfield 67, 3) := by decide +kernel
theorem dX9_item_169 : decode cX9_item 169 = .ok (.iconst 1, 1) := by decide +kernel
theorem dX9_item_170 : decode cX9_item 170 = .ok (.iaload, 1) := by decide +kernel
theorem dX9_item_171 : decode cX9_item 171 = .ok (.iastore, 1) := by decide +kernel
theorem dX9_item_172 : decode cX9_item 172 = .ok (.aload_n 0, 1) := by decide +kernel
theorem dX9_item_173 : decode cX9_item 173 = .ok (.getfield 13, 3) := by decide +kernel
theorem dX9_item_176 : decode cX9_item 176 = .ok (.iconst 1, 1) := by decide +kernel
theorem dX9_item_177 : decode cX9_item 177 = .ok (.dup2, 1) := by decide +kernel
theorem dX9_item_178 : decode cX9_item 178 = .ok (.iaload, 1) := by decide +kernel
theorem dX9_item_179 : decode cX9_item 179 = .ok (.iconst 1, 1) := by decide +kernel
theorem dX9_item_180 : decode cX9_item 180 = .ok (.iadd, 1) := by decide +kernel
theorem dX9_item_181 : decode cX9_item 181 = .ok (.iastore, 1) := by decide +kernel
theorem dX9_item_182 : decode cX9_item 182 = .ok (.iconst 1, 1) := by decide +kernel
theorem dX9_item_183 : decode cX9_item 183 = .ok (.ireturn, 1) := by decide +kernel
theorem dX9_item_184 : decode cX9_item 184 = .ok (.aload_n 0, 1) := by decide +kernel
theorem dX9_item_185 : decode cX9_item 185 = .ok (.iconst 3, 1) := by decide +kernel
theorem dX9_item_186 : decode cX9_item 186 = .ok (.invokevirtual 124, 3) := by decide +kernel
theorem dX9_item_189 : decode cX9_item 189 = .ok (.ifCond .eq 51, 3) := by decide +kernel
theorem dX9_item_192 : decode cX9_item 192 = .ok (.aload_n 0, 1) := by decide +kernel
theorem dX9_item_193 : decode cX9_item 193 = .ok (.getfield 22, 3) := by decide +kernel
theorem dX9_item_196 : decode cX9_item 196 = .ok (.iconst 1, 1) := by decide +kernel
theorem dX9_item_197 : decode cX9_item 197 = .ok (.iaload, 1) := by decide +kernel
theorem dX9_item_198 : decode cX9_item 198 = .ok (.iconst 5, 1) := by decide +kernel
theorem dX9_item_199 : decode cX9_item 199 = .ok (.if_icmp .eq 41, 3) := by decide +kernel
theorem dX9_item_202 : decode cX9_item 202 = .ok (.aload_n 0, 1) := by decide +kernel
theorem dX9_item_203 : decode cX9_item 203 = .ok (.getfield 67, 3) := by decide +kernel
theorem dX9_item_206 : decode cX9_item 206 = .ok (.iconst 0, 1) := by decide +kernel
theorem dX9_item_207 : decode cX9_item 207 = .ok (.iaload, 1) := by decide +kernel
theorem dX9_item_208 : decode cX9_item 208 = .ok (.bipush 8, 2) := by decide +kernel
theorem dX9_item_210 : decode cX9_item 210 = .ok (.if_icmp .gt 30, 3) := by decide +kernel
theorem dX9_item_213 : decode cX9_item 213 = .ok (.aload_n 0, 1) := by decide +kernel
theorem dX9_item_214 : decode cX9_item 214 = .ok (.getfield 67, 3) := by decide +kernel
theorem dX9_item_217 : decode cX9_item 217 = .ok (.iconst 1, 1) := by decide +kernel
theorem dX9_item_218 : decode cX9_item 218 = .ok (.iaload, 1) := by decide +kernel
theorem dX9_item_219 : decode cX9_item 219 = .ok (.i2l, 1) := by decide +kernel
theorem dX9_item_220 : decode cX9_item 220 = .ok (.lconst 1, 1) := by decide +kernel
theorem dX9_item_221 : decode cX9_item 221 = .ok (.ldc2_w 130, 3) := by decide +kernel
theorem dX9_item_224 : decode cX9_item 224 = .ok (.invokestatic 101, 3) := by decide +kernel
theorem dX9_item_227 : decode cX9_item 227 = .ok (.ifCond .eq 13, 3) := by decide +kernel
theorem dX9_item_230 : decode cX9_item 230 = .ok (.aload_n 0, 1) := by decide +kernel
theorem dX9_item_231 : decode cX9_item 231 = .ok (.getfield 67, 3) := by decide +kernel
theorem dX9_item_234 : decode cX9_item 234 = .ok (.iconst 2, 1) := by decide +kernel
theorem dX9_item_235 : decode cX9_item 235 = .ok (.iaload, 1) := by decide +kernel
theorem dX9_item_236 : decode cX9_item 236 = .ok (.iconst 3, 1) := by decide +kernel
theorem dX9_item_237 : decode cX9_item 237 = .ok (.if_icmp .le 5, 3) := by decide +kernel
theorem dX9_item_240 : decode cX9_item 240 = .ok (.iconst 0, 1) := by decide +kernel
theorem dX9_item_241 : decode cX9_item 241 = .ok (.ireturn, 1) := by decide +kernel
theorem dX9_item_242 : decode cX9_item 242 = .ok (.aload_n 0, 1) := by decide +kernel
theorem dX9_item_243 : decode cX9_item 243 = .ok (.getfield 37, 3) := by decide +kernel
theorem dX9_item_246 : decode cX9_item 246 = .ok (.iconst 5, 1) := by decide +kernel
theorem dX9_item_247 : decode cX9_item 247 = .ok (.aload_n 0, 1) := by decide +kernel
theorem dX9_item_248 : decode cX9_item 248 = .ok (.getfield 22, 3) := by decide +kernel
theorem dX9_item_251 : decode cX9_item 251 = .ok (.iconst 1, 1) := by decide +kernel
theorem dX9_item_252 : decode cX9_item 252 = .ok (.iaload, 1) := by decide +kernel
theorem dX9_item_253 : decode cX9_item 253 = .ok (.iadd, 1) := by decide +kernel
theorem dX9_item_254 : decode cX9_item 254 = .ok (.aload_n 0, 1) := by decide +kernel
theorem dX9_item_255 : decode cX9_item 255 = .ok (.getfield 67, 3) := by decide +kernel
theorem dX9_item_258 : decode cX9_item 258 = .ok (.iconst 0, 1) := by decide +kernel
theorem dX9_item_259 : decode cX9_item 259 = .ok (.iaload, 1) := by decide +kernel
theorem dX9_item_260 : decode cX9_item 260 = .ok (.iastore, 1) := by decide +kernel
theorem dX9_item_261 : decode cX9_item 261 = .ok (.aload_n 0, 1) := by decide +kernel
theorem dX9_item_262 : decode cX9_item 262 = .ok (.getfield 25, 3) := by decide +kernel
theorem dX9_item_265 : decode cX9_item 265 = .ok (.iconst 5, 1) := by decide +kernel
theorem dX9_item_266 : decode cX9_item 266 = .ok (.aload_n 0, 1) := by decide +kernel
theorem dX9_item_267 : decode cX9_item 267 = .ok (.getfield 22, 3) := by decide +kernel
theorem dX9_item_270 : decode cX9_item 270 = .ok (.iconst 1, 1) := by decide +kernel
theorem dX9_item_271 : decode cX9_item 271 = .ok (.iaload, 1) := by decide +kernel
theorem dX9_item_272 : decode cX9_item 272 = .ok (.iadd, 1) := by decide +kernel
theorem dX9_item_273 : decode cX9_item 273 = .ok (.aload_n 0, 1) := by decide +kernel
theorem dX9_item_274 : decode cX9_item 274 = .ok (.getfield 67, 3) := by decide +kernel
theorem dX9_item_277 : decode cX9_item 277 = .ok (.iconst 1, 1) := by decide +kernel
theorem dX9_item_278 : decode cX9_item 278 = .ok (.iaload, 1) := by decide +kernel
theorem dX9_item_279 : decode cX9_item 279 = .ok (.iastore, 1) := by decide +kernel
theorem dX9_item_280 : decode cX9_item 280 = .ok (.aload_n 0, 1) := by decide +kernel
theorem dX9_item_281 : decode cX9_item 281 = .ok (.getfield 28, 3) := by decide +kernel
theorem dX9_item_284 : decode cX9_item 284 = .ok (.iconst 5, 1) := by decide +kernel
theorem dX9_item_285 : decode cX9_item 285 = .ok (.aload_n 0, 1) := by decide +kernel
theorem dX9_item_286 : decode cX9_item 286 = .ok (.getfield 22, 3) := by decide +kernel
theorem dX9_item_289 : decode cX9_item 289 = .ok (.iconst 1, 1) := by decide +kernel
theorem dX9_item_290 : decode cX9_item 290 = .ok (.iaload, 1) := by decide +kernel
theorem dX9_item_291 : decode cX9_item 291 = .ok (.iadd, 1) := by decide +kernel
theorem dX9_item_292 : decode cX9_item 292 = .ok (.aload_n 0, 1) := by decide +kernel
theorem dX9_item_293 : decode cX9_item 293 = .ok (.getfield 67, 3) := by decide +kernel
theorem dX9_item_296 : decode cX9_item 296 = .ok (.iconst 2, 1) := by decide +kernel
theorem dX9_item_297 : decode cX9_item 297 = .ok (.iaload, 1) := by decide +kernel
theorem dX9_item_298 : decode cX9_item 298 = .ok (.iastore, 1) := by decide +kernel
theorem dX9_item_299 : decode cX9_item 299 = .ok (.aload_n 0, 1) := by decide +kernel
theorem dX9_item_300 : decode cX9_item 300 = .ok (.getfield 22, 3) := by decide +kernel
theorem dX9_item_303 : decode cX9_item 303 = .ok (.iconst 1, 1) := by decide +kernel
theorem dX9_item_304 : decode cX9_item 304 = .ok (.dup2, 1) := by decide +kernel
theorem dX9_item_305 : decode cX9_item 305 = .ok (.iaload, 1) := by decide +kernel
theorem dX9_item_306 : decode cX9_item 306 = .ok (.iconst 1, 1) := by decide +kernel
theorem dX9_item_307 : decode cX9_item 307 = .ok (.iadd, 1) := by decide +kernel
theorem dX9_item_308 : decode cX9_item 308 = .ok (.iastore, 1) := by decide +kernel
theorem dX9_item_309 : decode cX9_item 309 = .ok (.iconst 1, 1) := by decide +kernel
theorem dX9_item_310 : decode cX9_item 310 = .ok (.ireturn, 1) := by decide +kernel
theorem dX9_item_311 : decode cX9_item 311 = .ok (.aload_n 0, 1) := by decide +kernel
theorem dX9_item_312 : decode cX9_item 312 = .ok (.iconst 3, 1) := by decide +kernel
theorem dX9_item_313 : decode cX9_item 313 = .ok (.invokevirtual 124, 3) := by decide +kernel
theorem dX9_item_316 : decode cX9_item 316 = .ok (.ifCond .eq 57, 3) := by decide +kernel
theorem dX9_item_319 : decode cX9_item 319 = .ok (.aload_n 0, 1) := by decide +kernel
theorem dX9_item_320 : decode cX9_item 320 = .ok (.getfield 40, 3) := by decide +kernel
theorem dX9_item_323 : decode cX9_item 323 = .ok (.iconst 1, 1) := by decide +kernel
theorem dX9_item_324 : decode cX9_item 324 = .ok (.iaload, 1) := by decide +kernel
theorem dX9_item_325 : decode cX9_item 325 = .ok (.bipush 9, 2) := by decide +kernel
theorem dX9_item_327 : decode cX9_item 327 = .ok (.if_icmp .eq 46, 3) := by decide +kernel
theorem dX9_item_330 : decode cX9_item 330 = .ok (.aload_n 0, 1) := by decide +kernel
theorem dX9_item_331 : decode cX9_item 331 = .ok (.getfield 67, 3) := by decide +kernel
theorem dX9_item_334 : decode cX9_item 334 = .ok (.iconst 0, 1) := by decide +kernel
theorem dX9_item_335 : decode cX9_item 335 = .ok (.iaload, 1) := by decide +kernel
theorem dX9_item_336 : decode cX9_item 336 = .ok (.aload_n 0, 1) := by decide +kernel
theorem dX9_item_337 : decode cX9_item 337 = .ok (.getfield 22, 3) := by decide +kernel
theorem dX9_item_340 : decode cX9_item 340 = .ok (.iconst 1, 1) := by decide +kernel
theorem dX9_item_341 : decode cX9_item 341 = .ok (.iaload, 1) := by decide +kernel
theorem dX9_item_342 : decode cX9_item 342 = .ok (.if_icmp .ge 31, 3) := by decide +kernel
theorem dX9_item_345 : decode cX9_item 345 = .ok (.aload_n 0, 1) := by decide +kernel
theorem dX9_item_346 : decode cX9_item 346 = .ok (.getfield 67, 3) := by decide +kernel
theorem dX9_item_349 : decode cX9_item 349 = .ok (.iconst 1, 1) := by decide +kernel
theorem dX9_item_350 : decode cX9_item 350 = .ok (.iaload, 1) := by decide +kernel
theorem dX9_item_351 : decode cX9_item 351 = .ok (.bipush 8, 2) := by decide +kernel
theorem dX9_item_353 : decode cX9_item 353 = .ok (.if_icmp .gt 20, 3) := by decide +kernel
theorem dX9_item_356 : decode cX9_item 356 = .ok (.aload_n 0, 1) := by decide +kernel
theorem dX9_item_357 : decode cX9_item 357 = .ok (.getfield 67, 3) := by decide +kernel
theorem dX9_item_360 : decode cX9_item 360 = .ok (.iconst 2, 1) := by decide +kernel
theorem dX9_item_361 : decode cX9_item 361 = .ok (.iaload, 1) := by decide +kernel
theorem dX9_item_362 : decode cX9_item 362 = .ok (.i2l, 1) := by decide +kernel
theorem dX9_item_363 : decode cX9_item 363 = .ok (.lconst 1, 1) := by decide +kernel
theorem dX9_item_364 : decode cX9_item 364 = .ok (.ldc2_w 132, 3) := by decide +kernel
theorem dX9_item_367 : decode cX9_item 367 = .ok (.invokestatic 101, 3) := by decide +kernel
theorem dX9_item_370 : decode cX9_item 370 = .ok (.ifCond .ne 5, 3) := by decide +kernel
theorem dX9_item_373 : decode cX9_item 373 = .ok (.iconst 0, 1) := by decide +kernel
theorem dX9_item_374 : decode cX9_item 374 = .ok (.ireturn, 1) := by decide +kernel
theorem dX9_item_375 : decode cX9_item 375 = .ok (.aload_n 0, 1) := by decide +kernel
theorem dX9_item_376 : decode cX9_item 376 = .ok (.iconst 1, 1) := by decide +kernel
theorem dX9_item_377 : decode cX9_item 377 = .ok (.aload_n 0, 1) := by decide +kernel
theorem dX9_item_378 : decode cX9_item 378 = .ok (.getfield 67, 3) := by decide +kernel
theorem dX9_item_381 : decode cX9_item 381 = .ok (.iconst 0, 1) := by decide +kernel
theorem dX9_item_382 : decode cX9_item 382 = .ok (.iaload, 1) := by decide +kernel
theorem dX9_item_383 : decode cX9_item 383 = .ok (.aload_n 0, 1) := by decide +kernel
theorem dX9_item_384 : decode cX9_item 384 = .ok (.getfield 67, 3) := by decide +kernel
theorem dX9_item_387 : decode cX9_item 387 = .ok (.iconst 1, 1) := by decide +kernel
theorem dX9_item_388 : decode cX9_item 388 = .ok (.iaload, 1) := by decide +kernel
theorem dX9_item_389 : decode cX9_item 389 = .ok (.aload_n 0, 1) := by decide +kernel
theorem dX9_item_390 : decode cX9_item 390 = .ok (.getfield 67, 3) := by decide +kernel
theorem dX9_item_393 : decode cX9_item 393 = .ok (.iconst 2, 1) := by decide +kernel
theorem dX9_item_394 : decode cX9_item 394 = .ok (.iaload, 1) := by decide +kernel
theorem dX9_item_395 : decode cX9_item 395 = .ok (.invokevirtual 95, 3) := by decide +kernel
theorem dX9_item_398 : decode cX9_item 398 = .ok (.iconst 1, 1) := by decide +kernel
theorem dX9_item_399 : decode cX9_item 399 = .ok (.ireturn, 1) := by decide +kernel
theorem dX9_item_400 : decode cX9_item 400 = .ok (.aload_n 0, 1) := by decide +kernel
theorem dX9_item_401 : decode cX9_item 401 = .ok (.iconst 1, 1) := by decide +kernel
theorem dX9_item_402 : decode cX9_item 402 = .ok (.invokevirtual 124, 3) := by decide +kernel
theorem dX9_item_405 : decode cX9_item 405 = .ok (.ifCond .eq 14, 3) := by decide +kernel
theorem dX9_item_408 : decode cX9_item 408 = .ok (.aload_n 0, 1) := by decide +kernel
theorem dX9_item_409 : decode cX9_item 409 = .ok (.getfield 67, 3) := by decide +kernel
theorem dX9_item_412 : decode cX9_item 412 = .ok (.iconst 0, 1) := by decide +kernel
theorem dX9_item_413 : decode cX9_item 413 = .ok (.iaload, 1) := by decide +kernel
theorem dX9_item_414 : decode cX9_item 414 = .ok (.bipush 60, 2) := by decide +kernel
theorem dX9_item_416 : decode cX9_item 416 = .ok (.if_icmp .le 5, 3) := by decide +kernel
theorem dX9_item_419 : decode cX9_item 419 = .ok (.iconst 0, 1) := by decide +kernel
theorem dX9_item_420 : decode cX9_item 420 = .ok (.ireturn, 1) := by decide +kernel
theorem dX9_item_421 : decode cX9_item 421 = .ok (.aload_n 0, 1) := by decide +kernel
theorem dX9_item_422 : decode cX9_item 422 = .ok (.getfield 31, 3) := by decide +kernel
theorem dX9_item_425 : decode cX9_item 425 = .ok (.iconst 1, 1) := by decide +kernel
theorem dX9_item_426 : decode cX9_item 426 = .ok (.aload_n 0, 1) := by decide +kernel
theorem dX9_item_427 : decode cX9_item 427 = .ok (.getfield 67, 3) := by decide +kernel
theorem dX9_item_430 : decode cX9_item 430 = .ok (.iconst 0, 1) := by decide +kernel
theorem dX9_item_431 : decode cX9_item 431 = .ok (.iaload, 1) := by decide +kernel
theorem dX9_item_432 : decode cX9_item 432 = .ok (.iastore, 1) := by decide +kernel
theorem dX9_item_433 : decode cX9_item 433 = .ok (.iconst 1, 1) := by decide +kernel
theorem dX9_item_434 : decode cX9_item 434 = .ok (.ireturn, 1) := by decide +kernel
theorem dX9_item_435 : decode cX9_item 435 = .ok (.aload_n 0, 1) := by decide +kernel
theorem dX9_item_436 : decode cX9_item 436 = .ok (.iconst 1, 1) := by decide +kernel
theorem dX9_item_437 : decode cX9_item 437 = .ok (.invokevirtual 124, 3) := by decide +kernel
theorem dX9_item_440 : decode cX9_item 440 = .ok (.ifCond .eq 20, 3) := by decide +kernel
theorem dX9_item_443 : decode cX9_item 443 = .ok (.aload_n 0, 1) := by decide +kernel
theorem dX9_item_444 : decode cX9_item 444 = .ok (.getfield 67, 3) := by decide +kernel
theorem dX9_item_447 : decode cX9_item 447 = .ok (.iconst 0, 1) := by decide +kernel
theorem dX9_item_448 : decode cX9_item 448 = .ok (.iaload, 1) := by decide +kernel
theorem dX9_item_449 : decode cX9_item 449 = .ok (.i2l, 1) := by decide +kernel
theorem dX9_item_450 : decode cX9_item 450 = .ok (.lconst 1, 1) := by decide +kernel
theorem dX9_item_451 : decode cX9_item 451 = .ok (.ldc2_w 130, 3) := by decide +kernel
theorem dX9_item_454 : decode cX9_item 454 = .ok (.invokestatic 101, 3) := by decide +kernel
theorem dX9_item_457 : decode cX9_item 457 = .ok (.ifCond .ne 5, 3) := by decide +kernel
theorem dX9_item_460 : decode cX9_item 460 = .ok (.iconst 0, 1) := by decide +kernel
theorem dX9_item_461 : decode cX9_item 461 = .ok (.ireturn, 1) := by decide +kernel
theorem dX9_item_462 : decode cX9_item 462 = .ok (.aload_n 0, 1) := by decide +kernel
theorem dX9_item_463 : decode cX9_item 463 = .ok (.getfield 34, 3) := by decide +kernel
theorem dX9_item_466 : decode cX9_item 466 = .ok (.iconst 1, 1) := by decide +kernel
theorem dX9_item_467 : decode cX9_item 467 = .ok (.aload_n 0, 1) := by decide +kernel
theorem dX9_item_468 : decode cX9_item 468 = .ok (.getfield 67, 3) := by decide +kernel
theorem dX9_item_471 : decode cX9_item 471 = .ok (.iconst 0, 1) := by decide +kernel
theorem dX9_item_472 : decode cX9_item 472 = .ok (.iaload, 1) := by decide +kernel
theorem dX9_item_473 : decode cX9_item 473 = .ok (.iastore, 1) := by decide +kernel
theorem dX9_item_474 : decode cX9_item 474 = .ok (.iconst 1, 1) := by decide +kernel
theorem dX9_item_475 : decode cX9_item 475 = .ok (.ireturn, 1) := by decide +kernel
theorem dX9_item_476 : decode cX9_item 476 = .ok (.iconst 0, 1) := by decide +kernel
theorem dX9_item_477 : decode cX9_item 477 = .ok (.ireturn, 1) := by decide +kernel
set_option maxRecDepth 20000 in
theorem ggX9_readAll_X9_noTown : GoodIn wsX9_readAll wsX9_noTown := goodIn_r _ [7, 8, 9, 10, 11, 12, 48, 49, 50, 51, 52, 53, 54, 55, 56, 57, 58, 59, 60, 61, 62, 63, 64, 65, 66, 67, 68, 69, 70, 71, 72, 73, 74, 75, 76, 77, 78, 79, 80] (by decide +kernel) (by decide +kernel)
set_option maxRecDepth 20000 in
theorem gX9_readAll_X9_noTown : GoodIn wsX9_readAll (wsV RX9 91 RX9 yX9_noTown wsX9_noTown) := goodIn_app (goodIn_of _ (by decide +kernel)) ggX9_readAll_X9_noTown
set_option maxRecDepth 20000 in
theorem ggX9_readAll_X9_item : GoodIn wsX9_readAll wsX9_item := goodIn_r _ [16, 1, 8, 17, 18, 19, 20, 9, 21, 22, 23, 24, 10, 25, 11, 12, 26, 27, 28, 6, 29, 2, 30, 31, 32, 33, 34, 35, 36, 37, 38, 39, 40, 41, 42, 43, 44, 45, 46, 47, 48, 49, 50, 51, 52, 53, 54, 55, 56, 57, 58, 59, 60, 61, 62, 63, 64, 65, 66, 67, 68, 69, 70, 71, 72, 73, 74, 75, 76, 77, 78, 79, 80] (by decide +kernel) (by decide +kernel)
set_option maxRecDepth 20000 in
theorem gX9_readAll_X9_item : GoodIn wsX9_readAll (wsV RX9 134 RX9 yX9_item wsX9_item) := goodIn_app (goodIn_of _ (by decide +kernel)) ggX9_readAll_X9_item
theorem dX9_readAll_0 : decode cX9_readAll 0 = .ok (.aload_n 0, 1) := by decide +kernel
theorem dX9_readAll_1 : decode cX9_readAll 1 = .ok (.iconst 1, 1) := by decide +kernel
theorem dX9_readAll_2 : decode cX9_readAll 2 = .ok (.invokevirtual 91, 3) := by decide +kernel
theorem dX9_readAll_5 : decode cX9_readAll 5 = .ok (.aload_n 0, 1) := by decide +kernel
theorem dX9_readAll_6 : decode cX9_readAll 6 = .ok (.iconst 0, 1) := by decide +kernel
theorem dX9_readAll_7 : decode cX9_readAll 7 = .ok (.putfield 111, 3) := by decide +kernel
theorem dX9_readAll_10 : decode cX9_readAll 10 = .ok (.aload_n 0, 1) := by decide +kernel
theorem dX9_readAll_11 : decode cX9_readAll 11 = .ok (.getfield 111, 3) := by decide +kernel
theorem dX9_readAll_14 : decode cX9_readAll 14 = .ok (.aload_n 0, 1) := by decide +kernel
theorem dX9_readAll_15 : decode cX9_readAll 15 = .ok (.getfield 105, 3) := by decide +kernel
theorem dX9_readAll_18 : decode cX9_readAll 18 = .ok (.if_icmp .ge 20, 3) := by decide +kernel
theorem dX9_readAll_21 : decode cX9_readAll 21 = .ok (.aload_n 0, 1) := by decide +kernel
theorem dX9_readAll_22 : decode cX9_readAll 22 = .ok (.getfield 111, 3) := by decide +kernel
theorem dX9_readAll_25 : decode cX9_readAll 25 = .ok (.istore_n 1, 1) := by decide +kernel
theorem dX9_readAll_26 : decode cX9_readAll 26 = .ok (.aload_n 0, 1) := by decide +kernel
theorem dX9_readAll_27 : decode cX9_readAll 27 = .ok (.invokevirtual 134, 3) := by decide +kernel
theorem dX9_readAll_30 : decode cX9_readAll 30 = .ok (.ifCond .ne 5, 3) := by decide +kernel
theorem dX9_readAll_33 : decode cX9_readAll 33 = .ok (.iload_n 1, 1) := by decide +kernel
theorem dX9_readAll_34 : decode cX9_readAll 34 = .ok (.ireturn, 1) := by decide +kernel
theorem dX9_readAll_35 : decode cX9_readAll 35 = .ok (.goto (-25), 3) := by decide +kernel
theorem dX9_readAll_38 : decode cX9_readAll 38 = .ok (.bipush (-4), 2) := by decide +kernel
theorem dX9_readAll_40 : decode cX9_readAll 40 = .ok (.ireturn, 1) := by decide +kernel
set_option maxRecDepth 20000 in
theorem ggX9_fault_X9_readAll : GoodIn wsX9_fault wsX9_readAll := goodIn_r _ [5, 6, 7, 8, 9, 10, 4, 11, 12, 13, 14, 15, 16, 17, 18, 19, 20, 21, 22, 23, 24, 25, 26, 27, 28, 29, 30, 31, 32, 33, 34, 35, 36, 37, 38, 39, 40, 41, 42, 43, 44, 45, 46, 47, 48, 49, 50, 51, 52, 53, 54, 55, 56, 57, 58, 59, 60, 61, 62, 63, 64, 65, 66, 67, 68, 69, 70, 71, 72, 73, 74, 75, 76, 77, 78, 79, 80, 81, 82, 83, 84] (by decide +kernel) (by decide +kernel)
set_option maxRecDepth 20000 in
theorem gX9_fault_X9_readAll : GoodIn wsX9_fault (wsV RX9 138 RX9 yX9_readAll wsX9_readAll) := goodIn_app (goodIn_of _ (by decide +kernel)) ggX9_fault_X9_readAll
theorem dX9_fault_0 : decode cX9_fault 0 = .ok (.aload_n 0, 1) := by decide +kernel
theorem dX9_fault_1 : decode cX9_fault 1 = .ok (.invokevirtual 138, 3) := by decide +kernel
theorem dX9_fault_4 : decode cX9_fault 4 = .ok (.ireturn, 1) := by decide +kernel
theorem dX9_areThere_0 : decode cX9_areThere 0 = .ok (.aload_n 0, 1) := by decide +kernel
theorem dX9_areThere_1 : decode cX9_areThere 1 = .ok (.getfield 13, 3) := by decide +kernel
theorem dX9_areThere_4 : decode cX9_areThere 4 = .ok (.iconst 1, 1) := by decide +kernel
theorem dX9_areThere_5 : decode cX9_areThere 5 = .ok (.iaload, 1) := by decide +kernel
theorem dX9_areThere_6 : decode cX9_areThere 6 = .ok (.ifCond .le 16, 3) := by decide +kernel
theorem dX9_areThere_9 : decode cX9_areThere 9 = .ok (.aload_n 0, 1) := by decide +kernel
theorem dX9_areThere_10 : decode cX9_areThere 10 = .ok (.getfield 22, 3) := by decide +kernel
theorem dX9_areThere_13 : decode cX9_areThere 13 = .ok (.iconst 1, 1) := by decide +kernel
theorem dX9_areThere_14 : decode cX9_areThere 14 = .ok (.iaload, 1) := by decide +kernel
theorem dX9_areThere_15 : decode cX9_areThere 15 = .ok (.ifCond .le 7, 3) := by decide +kernel
theorem dX9_areThere_18 : decode cX9_areThere 18 = .ok (.iconst 1, 1) := by decide +kernel
theorem dX9_areThere_19 : decode cX9_areThere 19 = .ok (.goto 4, 3) := by decide +kernel
theorem dX9_areThere_22 : decode cX9_areThere 22 = .ok (.iconst 0, 1) := by decide +kernel
theorem dX9_areThere_23 : decode cX9_areThere 23 = .ok (.istore_n 1, 1) := by decide +kernel
theorem dX9_areThere_24 : decode cX9_areThere 24 = .ok (.iconst 0, 1) := by decide +kernel
theorem dX9_areThere_25 : decode cX9_areThere 25 = .ok (.istore_n 2, 1) := by decide +kernel
theorem dX9_areThere_26 : decode cX9_areThere 26 = .ok (.iload_n 2, 1) := by decide +kernel
theorem dX9_areThere_27 : decode cX9_areThere 27 = .ok (.aload_n 0, 1) := by decide +kernel
theorem dX9_areThere_28 : decode cX9_areThere 28 = .ok (.getfield 22, 3) := by decide +kernel
theorem dX9_areThere_31 : decode cX9_areThere 31 = .ok (.iconst 1, 1) := by decide +kernel
theorem dX9_areThere_32 : decode cX9_areThere 32 = .ok (.iaload, 1) := by decide +kernel
theorem dX9_areThere_33 : decode cX9_areThere 33 = .ok (.if_icmp .ge 36, 3) := by decide +kernel
theorem dX9_areThere_36 : decode cX9_areThere 36 = .ok (.iload_n 1, 1) := by decide +kernel
theorem dX9_areThere_37 : decode cX9_areThere 37 = .ok (.ifCond .eq 24, 3) := by decide +kernel
theorem dX9_areThere_40 : decode cX9_areThere 40 = .ok (.aload_n 0, 1) := by decide +kernel
theorem dX9_areThere_41 : decode cX9_areThere 41 = .ok (.getfield 37, 3) := by decide +kernel
theorem dX9_areThere_44 : decode cX9_areThere 44 = .ok (.iconst 5, 1) := by decide +kernel
theorem dX9_areThere_45 : decode cX9_areThere 45 = .ok (.iload_n 2, 1) := by decide +kernel
theorem dX9_areThere_46 : decode cX9_areThere 46 = .ok (.iadd, 1) := by decide +kernel
theorem dX9_areThere_47 : decode cX9_areThere 47 = .ok (.iaload, 1) := by decide +kernel
theorem dX9_areThere_48 : decode cX9_areThere 48 = .ok (.aload_n 0, 1) := by decide +kernel
theorem dX9_areThere_49 : decode cX9_areThere 49 = .ok (.getfield 13, 3) := by decide +kernel
theorem dX9_areThere_52 : decode cX9_areThere 52 = .ok (.iconst 1, 1) := by decide +kernel
theorem dX9_areThere_53 : decode cX9_areThere 53 = .ok (.iaload, 1) := by decide +kernel
theorem dX9_areThere_54 : decode cX9_areThere 54 = .ok (.if_icmp .ge 7, 3) := by decide +kernel
theorem dX9_areThere_57 : decode cX9_areThere 57 = .ok (.iconst 1, 1) := by decide +kernel
theorem dX9_areThere_58 : decode cX9_areThere 58 = .ok (.goto 4, 3) := by decide +kernel
theorem dX9_areThere_61 : decode cX9_areThere 61 = .ok (.iconst 0, 1) := by decide +kernel
theorem dX9_areThere_62 : decode cX9_areThere 62 = .ok (.istore_n 1, 1) := by decide +kernel
theorem dX9_areThere_63 : decode cX9_areThere 63 = .ok (.iinc 2 1, 3) := by decide +kernel
theorem dX9_areThere_66 : decode cX9_areThere 66 = .ok (.goto (-40), 3) := by decide +kernel
theorem dX9_areThere_69 : decode cX9_areThere 69 = .ok (.iconst 0, 1) := by decide +kernel
theorem dX9_areThere_70 : decode cX9_areThere 70 = .ok (.istore_n 2, 1) := by decide +kernel
theorem dX9_areThere_71 : decode cX9_areThere 71 = .ok (.iload_n 2, 1) := by decide +kernel
theorem dX9_areThere_72 : decode cX9_areThere 72 = .ok (.aload_n 0, 1) := by decide +kernel
theorem dX9_areThere_73 : decode cX9_areThere 73 = .ok (.getfield 40, 3) := by decide +kernel
theorem dX9_areThere_76 : decode cX9_areThere 76 = .ok (.iconst 1, 1) := by decide +kernel
theorem dX9_areThere_77 : decode cX9_areThere 77 = .ok (.iaload, 1) := by decide +kernel
theorem dX9_areThere_78 : decode cX9_areThere 78 = .ok (.if_icmp .ge 37, 3) := by decide +kernel
theorem dX9_areThere_81 : decode cX9_areThere 81 = .ok (.iload_n 1, 1) := by decide +kernel
theorem dX9_areThere_82 : decode cX9_areThere 82 = .ok (.ifCond .eq 25, 3) := by decide +kernel
theorem dX9_areThere_85 : decode cX9_areThere 85 = .ok (.aload_n 0, 1) := by decide +kernel
theorem dX9_areThere_86 : decode cX9_areThere 86 = .ok (.getfield 46, 3) := by decide +kernel
theorem dX9_areThere_89 : decode cX9_areThere 89 = .ok (.bipush 9, 2) := by decide +kernel
theorem dX9_areThere_91 : decode cX9_areThere 91 = .ok (.iload_n 2, 1) := by decide +kernel
theorem dX9_areThere_92 : decode cX9_areThere 92 = .ok (.iadd, 1) := by decide +kernel
theorem dX9_areThere_93 : decode cX9_areThere 93 = .ok (.iaload, 1) := by decide +kernel
theorem dX9_areThere_94 : decode cX9_areThere 94 = .ok (.aload_n 0, 1) := by decide +kernel
theorem dX9_areThere_95 : decode cX9_areThere 95 = .ok (.getfield 13, 3) := by decide +kernel
theorem dX9_areThere_98 : decode cX9_areThere 98 = .ok (.iconst 1, 1) := by decide +kernel
theorem dX9_areThere_99 : decode cX9_areThere 99 = .ok (.iaload, 1) := by decide +kernel
theorem dX9_areThere_100 : decode cX9_areThere 100 = .ok (.if_icmp .ge 7, 3) := by decide +kernel
theorem dX9_areThere_103 : decode cX9_areThere 103 = .ok (.iconst 1, 1) := by decide +kernel
theorem dX9_areThere_104 : decode cX9_areThere 104 = .ok (.goto 4, 3) := by decide +kernel
theorem dX9_areThere_107 : decode cX9_areThere 107 = .ok (.iconst 0, 1) := by decide +kernel
theorem dX9_areThere_108 : decode cX9_areThere 108 = .ok (.istore_n 1, 1) := by decide +kernel
theorem dX9_areThere_109 : decode cX9_areThere 109 = .ok (.iinc 2 1, 3) := by decide +kernel
theorem dX9_areThere_112 : decode cX9_areThere 112 = .ok (.goto (-41), 3) := by decide +kernel
theorem dX9_areThere_115 : decode cX9_areThere 115 = .ok (.iload_n 1, 1) := by decide +kernel
theorem dX9_areThere_116 : decode cX9_areThere 116 = .ok (.ireturn, 1) := by decide +kernel
theorem dX9_copy_0 : decode cX9_copy 0 = .ok (.iconst 0, 1) := by decide +kernel
theorem dX9_copy_1 : decode cX9_copy 1 = .ok (.istore_n 3, 1) := by decide +kernel
theorem dX9_copy_2 : decode cX9_copy 2 = .ok (.iload_n 3, 1) := by decide +kernel
theorem dX9_copy_3 : decode cX9_copy 3 = .ok (.iconst 5, 1) := by decide +kernel
theorem dX9_copy_4 : decode cX9_copy 4 = .ok (.if_icmp .ge 29, 3) := by decide +kernel
theorem dX9_copy_7 : decode cX9_copy 7 = .ok (.aload_n 0, 1) := by decide +kernel
theorem dX9_copy_8 : decode cX9_copy 8 = .ok (.getfield 37, 3) := by decide +kernel
theorem dX9_copy_11 : decode cX9_copy 11 = .ok (.iconst 5, 1) := by decide +kernel
theorem dX9_copy_12 : decode cX9_copy 12 = .ok (.iload_n 2, 1) := by decide +kernel
theorem dX9_copy_13 : decode cX9_copy 13 = .ok (.imul, 1) := by decide +kernel
theorem dX9_copy_14 : decode cX9_copy 14 = .ok (.iload_n 3, 1) := by decide +kernel
theorem dX9_copy_15 : decode cX9_copy 15 = .ok (.iadd, 1) := by decide +kernel
theorem dX9_copy_16 : decode cX9_copy 16 = .ok (.aload_n 0, 1) := by decide +kernel
theorem dX9_copy_17 : decode cX9_copy 17 = .ok (.getfield 37, 3) := by decide +kernel
theorem dX9_copy_20 : decode cX9_copy 20 = .ok (.iconst 5, 1) := by decide +kernel
theorem dX9_copy_21 : decode cX9_copy 21 = .ok (.iload_n 1, 1) := by decide +kernel
theorem dX9_copy_22 : decode cX9_copy 22 = .ok (.imul, 1) := by decide +kernel
theorem dX9_copy_23 : decode cX9_copy 23 = .ok (.iload_n 3, 1) := by decide +kernel
theorem dX9_copy_24 : decode cX9_copy 24 = .ok (.iadd, 1) := by decide +kernel
theorem dX9_copy_25 : decode cX9_copy 25 = .ok (.iaload, 1) := by decide +kernel
theorem dX9_copy_26 : decode cX9_copy 26 = .ok (.iastore, 1) := by decide +kernel
theorem dX9_copy_27 : decode cX9_copy 27 = .ok (.iinc 3 1, 3) := by decide +kernel
theorem dX9_copy_30 : decode cX9_copy 30 = .ok (.goto (-28), 3) := by decide +kernel
theorem dX9_copy_33 : decode cX9_copy 33 = .ok (.aload_n 0, 1) := by decide +kernel
theorem dX9_copy_34 : decode cX9_copy 34 = .ok (.getfield 40, 3) := by decide +kernel
theorem dX9_copy_37 : decode cX9_copy 37 = .ok (.iload_n 2, 1) := by decide +kernel
theorem dX9_copy_38 : decode cX9_copy 38 = .ok (.aload_n 0, 1) := by decide +kernel
theorem dX9_copy_39 : decode cX9_copy 39 = .ok (.getfield 40, 3) := by decide +kernel
theorem dX9_copy_42 : decode cX9_copy 42 = .ok (.iload_n 1, 1) := by decide +kernel
theorem dX9_copy_43 : decode cX9_copy 43 = .ok (.iaload, 1) := by decide +kernel
theorem dX9_copy_44 : decode cX9_copy 44 = .ok (.iastore, 1) := by decide +kernel
theorem dX9_copy_45 : decode cX9_copy 45 = .ok (.iconst 0, 1) := by decide +kernel
theorem dX9_copy_46 : decode cX9_copy 46 = .ok (.istore_n 3, 1) := by decide +kernel
theorem dX9_copy_47 : decode cX9_copy 47 = .ok (.iload_n 3, 1) := by decide +kernel
theorem dX9_copy_48 : decode cX9_copy 48 = .ok (.bipush 9, 2) := by decide +kernel
theorem dX9_copy_50 : decode cX9_copy 50 = .ok (.if_icmp .ge 75, 3) := by decide +kernel
theorem dX9_copy_53 : decode cX9_copy 53 = .ok (.aload_n 0, 1) := by decide +kernel
theorem dX9_copy_54 : decode cX9_copy 54 = .ok (.getfield 43, 3) := by decide +kernel
theorem dX9_copy_57 : decode cX9_copy 57 = .ok (.bipush 9, 2) := by decide +kernel
theorem dX9_copy_59 : decode cX9_copy 59 = .ok (.iload_n 2, 1) := by decide +kernel
theorem dX9_copy_60 : decode cX9_copy 60 = .ok (.imul, 1) := by decide +kernel
theorem dX9_copy_61 : decode cX9_copy 61 = .ok (.iload_n 3, 1) := by decide +kernel
theorem dX9_copy_62 : decode cX9_copy 62 = .ok (.iadd, 1) := by decide +kernel
theorem dX9_copy_63 : decode cX9_copy 63 = .ok (.aload_n 0, 1) := by decide +kernel
theorem dX9_copy_64 : decode cX9_copy 64 = .ok (.getfield 43, 3) := by decide +kernel
theorem dX9_copy_67 : decode cX9_copy 67 = .ok (.bipush 9, 2) := by decide +kernel
theorem dX9_copy_69 : decode cX9_copy 69 = .ok (.iload_n 1, 1) := by decide +kernel
theorem dX9_copy_70 : decode cX9_copy 70 = .ok (.imul, 1) := by decide +kernel
theorem dX9_copy_71 : decode cX9_copy 71 = .ok (.iload_n 3, 1) := by decide +kernel
theorem dX9_copy_72 : decode cX9_copy 72 = .ok (.iadd, 1) := by decide +kernel
theorem dX9_copy_73 : decode cX9_copy 73 = .ok (.iaload, 1) := by decide +kernel
theorem dX9_copy_74 : decode cX9_copy 74 = .ok (.iastore, 1) := by decide +kernel
theorem dX9_copy_75 : decode cX9_copy 75 = .ok (.aload_n 0, 1) := by decide +kernel
theorem dX9_copy_76 : decode cX9_copy 76 = .ok (.getfield 46, 3) := by decide +kernel
theorem dX9_copy_79 : decode cX9_copy 79 = .ok (.bipush 9, 2) := by decide +kernel
theorem dX9_copy_81 : decode cX9_copy 81 = .ok (.iload_n 2, 1) := by decide +kernel
theorem dX9_copy_82 : decode cX9_copy 82 = .ok (.imul, 1) := by decide +kernel
theorem dX9_copy_83 : decode cX9_copy 83 = .ok (.iload_n 3, 1) := by decide +kernel
theorem dX9_copy_84 : decode cX9_copy 84 = .ok (.iadd, 1) := by decide +kernel
theorem dX9_copy_85 : decode cX9_copy 85 = .ok (.aload_n 0, 1) := by decide +kernel
theorem dX9_copy_86 : decode cX9_copy 86 = .ok (.getfield 46, 3) := by decide +kernel
theorem dX9_copy_89 : decode cX9_copy 89 = .ok (.bipush 9, 2) := by decide +kernel
theorem dX9_copy_91 : decode cX9_copy 91 = .ok (.iload_n 1, 1) := by decide +kernel
theorem dX9_copy_92 : decode cX9_copy 92 = .ok (.imul, 1) := by decide +kernel
theorem dX9_copy_93 : decode cX9_copy 93 = .ok (.iload_n 3, 1) := by decide +kernel
theorem dX9_copy_94 : decode cX9_copy 94 = .ok (.iadd, 1) := by decide +kernel
theorem dX9_copy_95 : decode cX9_copy 95 = .ok (.iaload, 1) := by decide +kernel
theorem dX9_copy_96 : decode cX9_copy 96 = .ok (.iastore, 1) := by decide +kernel
theorem dX9_copy_97 : decode cX9_copy 97 = .ok (.aload_n 0, 1) := by decide +kernel
theorem dX9_copy_98 : decode cX9_copy 98 = .ok (.getfield 49, 3) := by decide +kernel
theorem dX9_copy_101 : decode cX9_copy 101 = .ok (.bipush 9, 2) := by decide +kernel
theorem dX9_copy_103 : decode cX9_copy 103 = .ok (.iload_n 2, 1) := by decide +kernel
theorem dX9_copy_104 : decode cX9_copy 104 = .ok (.imul, 1) := by decide +kernel
theorem dX9_copy_105 : decode cX9_copy 105 = .ok (.iload_n 3, 1) := by decide +kernel
theorem dX9_copy_106 : decode cX9_copy 106 = .ok (.iadd, 1) := by decide +kernel
theorem dX9_copy_107 : decode cX9_copy 107 = .ok (.aload_n 0, 1) := by decide +kernel
theorem dX9_copy_108 : decode cX9_copy 108 = .ok (.getfield 49, 3) := by decide +kernel
theorem dX9_copy_111 : decode cX9_copy 111 = .ok (.bipush 9, 2) := by decide +kernel
theorem dX9_copy_113 : decode cX9_copy 113 = .ok (.iload_n 1, 1) := by decide +kernel
theorem dX9_copy_114 : decode cX9_copy 114 = .ok (.imul, 1) := by decide +kernel
theorem dX9_copy_115 : decode cX9_copy 115 = .ok (.iload_n 3, 1) := by decide +kernel
theorem dX9_copy_116 : decode cX9_copy 116 = .ok (.iadd, 1) := by decide +kernel
theorem dX9_copy_117 : decode cX9_copy 117 = .ok (.iaload, 1) := by decide +kernel
theorem dX9_copy_118 : decode cX9_copy 118 = .ok (.iastore, 1) := by decide +kernel
theorem dX9_copy_119 : decode cX9_copy 119 = .ok (.iinc 3 1, 3) := by decide +kernel
theorem dX9_copy_122 : decode cX9_copy 122 = .ok (.goto (-75), 3) := by decide +kernel
theorem dX9_copy_125 : decode cX9_copy 125 = .ok (.return_, 1) := by decide +kernel
set_option maxRecDepth 20000 in
theorem ggX9_lay_X9_readAll : GoodIn wsX9_lay wsX9_readAll := goodIn_r _ [16, 17, 18, 19, 20, 21, 15, 22, 1, 2, 23, 3, 4, 24, 25, 26, 27, 28, 29, 5, 6, 30, 31, 7, 8, 32, 33, 34, 35, 36, 37, 38, 39, 40, 41, 42, 43, 44, 45, 46, 47, 48, 49, 50, 51, 52, 53, 54, 63, 64, 65, 66, 67, 68, 69, 70, 71, 72, 73, 74, 75, 76, 77, 78, 79, 80, 81, 82, 83, 84, 85, 86, 87, 88, 89, 90, 91, 92, 93, 94, 95] (by decide +kernel) (by decide +kernel)
set_option maxRecDepth 20000 in
theorem gX9_lay_X9_readAll : GoodIn wsX9_lay (wsV RX9 138 RX9 yX9_readAll wsX9_readAll) := goodIn_app (goodIn_of _ (by decide +kernel)) ggX9_lay_X9_readAll
set_option maxRecDepth 20000 in
theorem ggX9_lay_X9_areThere : GoodIn wsX9_lay wsX9_areThere := goodIn_r _ [58, 1, 2, 31, 23, 53, 63, 64, 65, 66, 67, 68, 69, 70, 71, 72, 73, 74, 75, 76, 77, 78, 79, 80, 81, 82, 83, 84, 85, 86, 87, 88, 89, 90, 91, 92, 93, 94, 95] (by decide +kernel) (by decide +kernel)
set_option maxRecDepth 20000 in
theorem gX9_lay_X9_areThere : GoodIn wsX9_lay (wsV RX9 142 RX9 yX9_areThere wsX9_areThere) := goodIn_app (goodIn_of _ (by decide +kernel)) ggX9_lay_X9_areThere
set_option maxRecDepth 20000 in
theorem ggX9_lay_X9_copy : GoodIn wsX9_lay wsX9_copy := goodIn_r _ [62, 31, 23, 52, 53, 54, 63, 64, 65, 66, 67, 68, 69, 70, 71, 72, 73, 74, 75, 76, 77, 78, 79, 80, 81, 82, 83, 84, 85, 86, 87, 88, 89, 90, 91, 92, 93, 94, 95] (by decide +kernel) (by decide +kernel)
set_option maxRecDepth 20000 in
theorem gX9_lay_X9_copy : GoodIn wsX9_lay (wsV RX9 145 RX9 yX9_copy wsX9_copy) := goodIn_app (goodIn_of _ (by decide +kernel)) ggX9_lay_X9_copy
theorem dX9_lay_0 : decode cX9_lay 0 = .ok (.aload_n 0, 1) := by decide +kernel
theorem dX9_lay_1 : decode cX9_lay 1 = .ok (.invokevirtual 138, 3) := by decide +kernel
theorem dX9_lay_4 : decode cX9_lay 4 = .ok (.bipush (-4), 2) := by decide +kernel
theorem dX9_lay_6 : decode cX9_lay 6 = .ok (.if_icmp .ne 10, 3) := by decide +kernel
theorem dX9_lay_9 : decode cX9_lay 9 = .ok (.aload_n 0, 1) := by decide +kernel
theorem dX9_lay_10 : decode cX9_lay 10 = .ok (.invokevirtual 142, 3) := by decide +kernel
theorem dX9_lay_13 : decode cX9_lay 13 = .ok (.ifCond .ne 6, 3) := by decide +kernel
theorem dX9_lay_16 : decode cX9_lay 16 = .ok (.bipush (-2), 2) := by decide +kernel
theorem dX9_lay_18 : decode cX9_lay 18 = .ok (.ireturn, 1) := by decide +kernel
theorem dX9_lay_19 : decode cX9_lay 19 = .ok (.aload_n 0, 1) := by decide +kernel
theorem dX9_lay_20 : decode cX9_lay 20 = .ok (.getfield 13, 3) := by decide +kernel
theorem dX9_lay_23 : decode cX9_lay 23 = .ok (.iconst 0, 1) := by decide +kernel
theorem dX9_lay_24 : decode cX9_lay 24 = .ok (.aload_n 0, 1) := by decide +kernel
theorem dX9_lay_25 : decode cX9_lay 25 = .ok (.getfield 13, 3) := by decide +kernel
theorem dX9_lay_28 : decode cX9_lay 28 = .ok (.iconst 1, 1) := by decide +kernel
theorem dX9_lay_29 : decode cX9_lay 29 = .ok (.iaload, 1) := by decide +kernel
theorem dX9_lay_30 : decode cX9_lay 30 = .ok (.iastore, 1) := by decide +kernel
theorem dX9_lay_31 : decode cX9_lay 31 = .ok (.aload_n 0, 1) := by decide +kernel
theorem dX9_lay_32 : decode cX9_lay 32 = .ok (.getfield 22, 3) := by decide +kernel
theorem dX9_lay_35 : decode cX9_lay 35 = .ok (.iconst 0, 1) := by decide +kernel
theorem dX9_lay_36 : decode cX9_lay 36 = .ok (.aload_n 0, 1) := by decide +kernel
theorem dX9_lay_37 : decode cX9_lay 37 = .ok (.getfield 22, 3) := by decide +kernel
theorem dX9_lay_40 : decode cX9_lay 40 = .ok (.iconst 1, 1) := by decide +kernel
theorem dX9_lay_41 : decode cX9_lay 41 = .ok (.iaload, 1) := by decide +kernel
theorem dX9_lay_42 : decode cX9_lay 42 = .ok (.iastore, 1) := by decide +kernel
theorem dX9_lay_43 : decode cX9_lay 43 = .ok (.aload_n 0, 1) := by decide +kernel
theorem dX9_lay_44 : decode cX9_lay 44 = .ok (.getfield 31, 3) := by decide +kernel
theorem dX9_lay_47 : decode cX9_lay 47 = .ok (.iconst 0, 1) := by decide +kernel
theorem dX9_lay_48 : decode cX9_lay 48 = .ok (.aload_n 0, 1) := by decide +kernel
theorem dX9_lay_49 : decode cX9_lay 49 = .ok (.getfield 31, 3) := by decide +kernel
theorem dX9_lay_52 : decode cX9_lay 52 = .ok (.iconst 1, 1) := by decide +kernel
theorem dX9_lay_53 : decode cX9_lay 53 = .ok (.iaload, 1) := by decide +kernel
theorem dX9_lay_54 : decode cX9_lay 54 = .ok (.iastore, 1) := by decide +kernel
theorem dX9_lay_55 : decode cX9_lay 55 = .ok (.aload_n 0, 1) := by decide +kernel
theorem dX9_lay_56 : decode cX9_lay 56 = .ok (.getfield 34, 3) := by decide +kernel
theorem dX9_lay_59 : decode cX9_lay 59 = .ok (.iconst 0, 1) := by decide +kernel
theorem dX9_lay_60 : decode cX9_lay 60 = .ok (.aload_n 0, 1) := by decide +kernel
theorem dX9_lay_61 : decode cX9_lay 61 = .ok (.getfield 34, 3) := by decide +kernel
theorem dX9_lay_64 : decode cX9_lay 64 = .ok (.iconst 1, 1) := by decide +kernel
theorem dX9_lay_65 : decode cX9_lay 65 = .ok (.iaload, 1) := by decide +kernel
theorem dX9_lay_66 : decode cX9_lay 66 = .ok (.iastore, 1) := by decide +kernel
theorem dX9_lay_67 : decode cX9_lay 67 = .ok (.iconst 0, 1) := by decide +kernel
theorem dX9_lay_68 : decode cX9_lay 68 = .ok (.istore_n 1, 1) := by decide +kernel
theorem dX9_lay_69 : decode cX9_lay 69 = .ok (.iload_n 1, 1) := by decide +kernel
theorem dX9_lay_70 : decode cX9_lay 70 = .ok (.bipush 9, 2) := by decide +kernel
theorem dX9_lay_72 : decode cX9_lay 72 = .ok (.if_icmp .ge 39, 3) := by decide +kernel
theorem dX9_lay_75 : decode cX9_lay 75 = .ok (.aload_n 0, 1) := by decide +kernel
theorem dX9_lay_76 : decode cX9_lay 76 = .ok (.getfield 16, 3) := by decide +kernel
theorem dX9_lay_79 : decode cX9_lay 79 = .ok (.iload_n 1, 1) := by decide +kernel
theorem dX9_lay_80 : decode cX9_lay 80 = .ok (.aload_n 0, 1) := by decide +kernel
theorem dX9_lay_81 : decode cX9_lay 81 = .ok (.getfield 16, 3) := by decide +kernel
theorem dX9_lay_84 : decode cX9_lay 84 = .ok (.bipush 9, 2) := by decide +kernel
theorem dX9_lay_86 : decode cX9_lay 86 = .ok (.iload_n 1, 1) := by decide +kernel
theorem dX9_lay_87 : decode cX9_lay 87 = .ok (.iadd, 1) := by decide +kernel
theorem dX9_lay_88 : decode cX9_lay 88 = .ok (.iaload, 1) := by decide +kernel
theorem dX9_lay_89 : decode cX9_lay 89 = .ok (.iastore, 1) := by decide +kernel
theorem dX9_lay_90 : decode cX9_lay 90 = .ok (.aload_n 0, 1) := by decide +kernel
theorem dX9_lay_91 : decode cX9_lay 91 = .ok (.getfield 19, 3) := by decide +kernel
theorem dX9_lay_94 : decode cX9_lay 94 = .ok (.iload_n 1, 1) := by decide +kernel
theorem dX9_lay_95 : decode cX9_lay 95 = .ok (.aload_n 0, 1) := by decide +kernel
theorem dX9_lay_96 : decode cX9_lay 96 = .ok (.getfield 19, 3) := by decide +kernel
theorem dX9_lay_99 : decode cX9_lay 99 = .ok (.bipush 9, 2) := by decide +kernel
theorem dX9_lay_101 : decode cX9_lay 101 = .ok (.iload_n 1, 1) := by decide +kernel
theorem dX9_lay_102 : decode cX9_lay 102 = .ok (.iadd, 1) := by decide +kernel
theorem dX9_lay_103 : decode cX9_lay 103 = .ok (.iaload, 1) := by decide +kernel
theorem dX9_lay_104 : decode cX9_lay 104 = .ok (.iastore, 1) := by decide +kernel
theorem dX9_lay_105 : decode cX9_lay 105 = .ok (.iinc 1 1, 3) := by decide +kernel
theorem dX9_lay_108 : decode cX9_lay 108 = .ok (.goto (-39), 3) := by decide +kernel
theorem dX9_lay_111 : decode cX9_lay 111 = .ok (.iconst 0, 1) := by decide +kernel
theorem dX9_lay_112 : decode cX9_lay 112 = .ok (.istore_n 1, 1) := by decide +kernel
theorem dX9_lay_113 : decode cX9_lay 113 = .ok (.iload_n 1, 1) := by decide +kernel
theorem dX9_lay_114 : decode cX9_lay 114 = .ok (.iconst 5, 1) := by decide +kernel
theorem dX9_lay_115 : decode cX9_lay 115 = .ok (.if_icmp .ge 37, 3) := by decide +kernel
theorem dX9_lay_118 : decode cX9_lay 118 = .ok (.aload_n 0, 1) := by decide +kernel
theorem dX9_lay_119 : decode cX9_lay 119 = .ok (.getfield 25, 3) := by decide +kernel
theorem dX9_lay_122 : decode cX9_lay 122 = .ok (.iload_n 1, 1) := by decide +kernel
theorem dX9_lay_123 : decode cX9_lay 123 = .ok (.aload_n 0, 1) := by decide +kernel
theorem dX9_lay_124 : decode cX9_lay 124 = .ok (.getfield 25, 3) := by decide +kernel
theorem dX9_lay_127 : decode cX9_lay 127 = .ok (.iconst 5, 1) := by decide +kernel
theorem dX9_lay_128 : decode cX9_lay 128 = .ok (.iload_n 1, 1) := by decide +kernel
theorem dX9_lay_129 : decode cX9_lay 129 = .ok (.iadd, 1) := by decide +kernel
theorem dX9_lay_130 : decode cX9_lay 130 = .ok (.iaload, 1) := by decide +kernel
theorem dX9_lay_131 : decode cX9_lay 131 = .ok (.iastore, 1) := by decide +kernel
theorem dX9_lay_132 : decode cX9_lay 132 = .ok (.aload_n 0, 1) := by decide +kernel
theorem dX9_lay_133 : decode cX9_lay 133 = .ok (.getfield 28, 3) := by decide +kernel
theorem dX9_lay_136 : decode cX9_lay 136 = .ok (.iload_n 1, 1) := by decide +kernel
theorem dX9_lay_137 : decode cX9_lay 137 = .ok (.aload_n 0, 1) := by decide +kernel
theorem dX9_lay_138 : decode cX9_lay 138 = .ok (.getfield 28, 3) := by decide +kernel
theorem dX9_lay_141 : decode cX9_lay 141 = .ok (.iconst 5, 1) := by decide +kernel
theorem dX9_lay_142 : decode cX9_lay 142 = .ok (.iload_n 1, 1) := by decide +kernel
theorem dX9_lay_143 : decode cX9_lay 143 = .ok (.iadd, 1) := by decide +kernel
theorem dX9_lay_144 : decode cX9_lay 144 = .ok (.iaload, 1) := by decide +kernel
theorem dX9_lay_145 : decode cX9_lay 145 = .ok (.iastore, 1) := by decide +kernel
theorem dX9_lay_146 : decode cX9_lay 146 = .ok (.iinc 1 1, 3) := by decide +kernel
theorem dX9_lay_149 : decode cX9_lay 149 = .ok (.goto (-36), 3) := by decide +kernel
theorem dX9_lay_152 : decode cX9_lay 152 = .ok (.aload_n 0, 1) := by decide +kernel
theorem dX9_lay_153 : decode cX9_lay 153 = .ok (.iconst 1, 1) := by decide +kernel
theorem dX9_lay_154 : decode cX9_lay 154 = .ok (.iconst 0, 1) := by decide +kernel
theorem dX9_lay_155 : decode cX9_lay 155 = .ok (.invokevirtual 145, 3) := by decide +kernel
theorem dX9_lay_158 : decode cX9_lay 158 = .ok (.aload_n 0, 1) := by decide +kernel
theorem dX9_lay_159 : decode cX9_lay 159 = .ok (.iconst 0, 1) := by decide +kernel
theorem dX9_lay_160 : decode cX9_lay 160 = .ok (.putfield 149, 3) := by decide +kernel
theorem dX9_lay_163 : decode cX9_lay 163 = .ok (.aload_n 0, 1) := by decide +kernel
theorem dX9_lay_164 : decode cX9_lay 164 = .ok (.iconst 0, 1) := by decide +kernel
theorem dX9_lay_165 : decode cX9_lay 165 = .ok (.putfield 152, 3) := by decide +kernel
theorem dX9_lay_168 : decode cX9_lay 168 = .ok (.aload_n 0, 1) := by decide +kernel
theorem dX9_lay_169 : decode cX9_lay 169 = .ok (.iconst 0, 1) := by decide +kernel
theorem dX9_lay_170 : decode cX9_lay 170 = .ok (.putfield 155, 3) := by decide +kernel
theorem dX9_lay_173 : decode cX9_lay 173 = .ok (.aload_n 0, 1) := by decide +kernel
theorem dX9_lay_174 : decode cX9_lay 174 = .ok (.getfield 22, 3) := by decide +kernel
theorem dX9_lay_177 : decode cX9_lay 177 = .ok (.iconst 0, 1) := by decide +kernel
theorem dX9_lay_178 : decode cX9_lay 178 = .ok (.iaload, 1) := by decide +kernel
theorem dX9_lay_179 : decode cX9_lay 179 = .ok (.ireturn, 1) := by decide +kernel
set_option maxRecDepth 20000 in
theorem ggX9_isPlace_X9_in : GoodIn wsX9_isPlace wsX9_in := goodIn_r _ [5] (by decide +kernel) (by decide +kernel)
set_option maxRecDepth 20000 in
theorem gX9_isPlace_X9_in : GoodIn wsX9_isPlace (va_wsS RX9 101 yX9_in wsX9_in) := goodIn_app (goodIn_of _ (by decide +kernel)) ggX9_isPlace_X9_in
theorem dX9_isPlace_0 : decode cX9_isPlace 0 = .ok (.iload_n 1, 1) := by decide +kernel
theorem dX9_isPlace_1 : decode cX9_isPlace 1 = .ok (.i2l, 1) := by decide +kernel
theorem dX9_isPlace_2 : decode cX9_isPlace 2 = .ok (.lconst 0, 1) := by decide +kernel
theorem dX9_isPlace_3 : decode cX9_isPlace 3 = .ok (.aload_n 0, 1) := by decide +kernel
theorem dX9_isPlace_4 : decode cX9_isPlace 4 = .ok (.getfield 13, 3) := by decide +kernel
theorem dX9_isPlace_7 : decode cX9_isPlace 7 = .ok (.iconst 0, 1) := by decide +kernel
theorem dX9_isPlace_8 : decode cX9_isPlace 8 = .ok (.iaload, 1) := by decide +kernel
theorem dX9_isPlace_9 : decode cX9_isPlace 9 = .ok (.iconst 1, 1) := by decide +kernel
theorem dX9_isPlace_10 : decode cX9_isPlace 10 = .ok (.isub, 1) := by decide +kernel
theorem dX9_isPlace_11 : decode cX9_isPlace 11 = .ok (.i2l, 1) := by decide +kernel
theorem dX9_isPlace_12 : decode cX9_isPlace 12 = .ok (.invokestatic 101, 3) := by decide +kernel
theorem dX9_isPlace_15 : decode cX9_isPlace 15 = .ok (.ireturn, 1) := by decide +kernel
set_option maxRecDepth 20000 in
theorem ggX9_isSkin_X9_in : GoodIn wsX9_isSkin wsX9_in := goodIn_r _ [5] (by decide +kernel) (by decide +kernel)
set_option maxRecDepth 20000 in
theorem gX9_isSkin_X9_in : GoodIn wsX9_isSkin (va_wsS RX9 101 yX9_in wsX9_in) := goodIn_app (goodIn_of _ (by decide +kernel)) ggX9_isSkin_X9_in
theorem dX9_isSkin_0 : decode cX9_isSkin 0 = .ok (.iload_n 1, 1) := by decide +kernel
theorem dX9_isSkin_1 : decode cX9_isSkin 1 = .ok (.i2l, 1) := by decide +kernel
theorem dX9_isSkin_2 : decode cX9_isSkin 2 = .ok (.lconst 0, 1) := by decide +kernel
theorem dX9_isSkin_3 : decode cX9_isSkin 3 = .ok (.aload_n 0, 1) := by decide +kernel
theorem dX9_isSkin_4 : decode cX9_isSkin 4 = .ok (.getfield 22, 3) := by decide +kernel
theorem dX9_isSkin_7 : decode cX9_isSkin 7 = .ok (.iconst 0, 1) := by decide +kernel
theorem dX9_isSkin_8 : decode cX9_isSkin 8 = .ok (.iaload, 1) := by decide +kernel
theorem dX9_isSkin_9 : decode cX9_isSkin 9 = .ok (.iconst 1, 1) := by decide +kernel
theorem dX9_isSkin_10 : decode cX9_isSkin 10 = .ok (.isub, 1) := by decide +kernel
theorem dX9_isSkin_11 : decode cX9_isSkin 11 = .ok (.i2l, 1) := by decide +kernel
theorem dX9_isSkin_12 : decode cX9_isSkin 12 = .ok (.invokestatic 101, 3) := by decide +kernel
theorem dX9_isSkin_15 : decode cX9_isSkin 15 = .ok (.ireturn, 1) := by decide +kernel
set_option maxRecDepth 20000 in
theorem ggX9_place_X9_isPlace : GoodIn wsX9_place wsX9_isPlace := goodIn_r _ [7, 8, 9, 10, 6, 11, 12, 13, 14, 15, 16, 17, 18, 19, 20, 21, 22, 23, 24, 25, 26, 27, 28, 29, 30, 31, 32, 33, 34, 35, 36, 37, 38, 39, 40, 41, 42, 43, 44] (by decide +kernel) (by decide +kernel)
set_option maxRecDepth 20000 in
theorem gX9_place_X9_isPlace : GoodIn wsX9_place (wsV RX9 158 RX9 yX9_isPlace wsX9_isPlace) := goodIn_app (goodIn_of _ (by decide +kernel)) ggX9_place_X9_isPlace
set_option maxRecDepth 20000 in
theorem ggX9_place_X9_in : GoodIn wsX9_place wsX9_in := goodIn_r _ [11] (by decide +kernel) (by decide +kernel)
set_option maxRecDepth 20000 in
theorem gX9_place_X9_in : GoodIn wsX9_place (va_wsS RX9 101 yX9_in wsX9_in) := goodIn_app (goodIn_of _ (by decide +kernel)) ggX9_place_X9_in
theorem dX9_place_0 : decode cX9_place 0 = .ok (.aload_n 0, 1) := by decide +kernel
theorem dX9_place_1 : decode cX9_place 1 = .ok (.iload_n 1, 1) := by decide +kernel
theorem dX9_place_2 : decode cX9_place 2 = .ok (.invokevirtual 158, 3) := by decide +kernel
theorem dX9_place_5 : decode cX9_place 5 = .ok (.ifCond .eq 13, 3) := by decide +kernel
theorem dX9_place_8 : decode cX9_place 8 = .ok (.iload_n 2, 1) := by decide +kernel
theorem dX9_place_9 : decode cX9_place 9 = .ok (.i2l, 1) := by decide +kernel
theorem dX9_place_10 : decode cX9_place 10 = .ok (.lconst 0, 1) := by decide +kernel
theorem dX9_place_11 : decode cX9_place 11 = .ok (.lconst 1, 1) := by decide +kernel
theorem dX9_place_12 : decode cX9_place 12 = .ok (.invokestatic 101, 3) := by decide +kernel
theorem dX9_place_15 : decode cX9_place 15 = .ok (.ifCond .ne 5, 3) := by decide +kernel
theorem dX9_place_18 : decode cX9_place 18 = .ok (.iconst (-1), 1) := by decide +kernel
theorem dX9_place_19 : decode cX9_place 19 = .ok (.ireturn, 1) := by decide +kernel
theorem dX9_place_20 : decode cX9_place 20 = .ok (.iload_n 2, 1) := by decide +kernel
theorem dX9_place_21 : decode cX9_place 21 = .ok (.ifCond .ne 12, 3) := by decide +kernel
theorem dX9_place_24 : decode cX9_place 24 = .ok (.aload_n 0, 1) := by decide +kernel
theorem dX9_place_25 : decode cX9_place 25 = .ok (.getfield 16, 3) := by decide +kernel
theorem dX9_place_28 : decode cX9_place 28 = .ok (.iload_n 1, 1) := by decide +kernel
theorem dX9_place_29 : decode cX9_place 29 = .ok (.iaload, 1) := by decide +kernel
theorem dX9_place_30 : decode cX9_place 30 = .ok (.goto 9, 3) := by decide +kernel
theorem dX9_place_33 : decode cX9_place 33 = .ok (.aload_n 0, 1) := by decide +kernel
theorem dX9_place_34 : decode cX9_place 34 = .ok (.getfield 19, 3) := by decide +kernel
theorem dX9_place_37 : decode cX9_place 37 = .ok (.iload_n 1, 1) := by decide +kernel
theorem dX9_place_38 : decode cX9_place 38 = .ok (.iaload, 1) := by decide +kernel
theorem dX9_place_39 : decode cX9_place 39 = .ok (.ireturn, 1) := by decide +kernel
theorem dX9_nextOf_0 : decode cX9_nextOf 0 = .ok (.iload_n 1, 1) := by decide +kernel
theorem dX9_nextOf_1 : decode cX9_nextOf 1 = .ok (.iconst 1, 1) := by decide +kernel
theorem dX9_nextOf_2 : decode cX9_nextOf 2 = .ok (.iadd, 1) := by decide +kernel
theorem dX9_nextOf_3 : decode cX9_nextOf 3 = .ok (.aload_n 0, 1) := by decide +kernel
theorem dX9_nextOf_4 : decode cX9_nextOf 4 = .ok (.getfield 13, 3) := by decide +kernel
theorem dX9_nextOf_7 : decode cX9_nextOf 7 = .ok (.iconst 0, 1) := by decide +kernel
theorem dX9_nextOf_8 : decode cX9_nextOf 8 = .ok (.iaload, 1) := by decide +kernel
theorem dX9_nextOf_9 : decode cX9_nextOf 9 = .ok (.if_icmp .ge 9, 3) := by decide +kernel
theorem dX9_nextOf_12 : decode cX9_nextOf 12 = .ok (.iload_n 1, 1) := by decide +kernel
theorem dX9_nextOf_13 : decode cX9_nextOf 13 = .ok (.iconst 1, 1) := by decide +kernel
theorem dX9_nextOf_14 : decode cX9_nextOf 14 = .ok (.iadd, 1) := by decide +kernel
theorem dX9_nextOf_15 : decode cX9_nextOf 15 = .ok (.goto 4, 3) := by decide +kernel
theorem dX9_nextOf_18 : decode cX9_nextOf 18 = .ok (.iconst 0, 1) := by decide +kernel
theorem dX9_nextOf_19 : decode cX9_nextOf 19 = .ok (.ireturn, 1) := by decide +kernel
theorem dX9_lowestOf_0 : decode cX9_lowestOf 0 = .ok (.iconst 0, 1) := by decide +kernel
theorem dX9_lowestOf_1 : decode cX9_lowestOf 1 = .ok (.istore_n 2, 1) := by decide +kernel
theorem dX9_lowestOf_2 : decode cX9_lowestOf 2 = .ok (.aload_n 0, 1) := by decide +kernel
theorem dX9_lowestOf_3 : decode cX9_lowestOf 3 = .ok (.getfield 16, 3) := by decide +kernel
theorem dX9_lowestOf_6 : decode cX9_lowestOf 6 = .ok (.iload_n 2, 1) := by decide +kernel
theorem dX9_lowestOf_7 : decode cX9_lowestOf 7 = .ok (.iaload, 1) := by decide +kernel
theorem dX9_lowestOf_8 : decode cX9_lowestOf 8 = .ok (.iload_n 1, 1) := by decide +kernel
theorem dX9_lowestOf_9 : decode cX9_lowestOf 9 = .ok (.if_icmp .eq 9, 3) := by decide +kernel
theorem dX9_lowestOf_12 : decode cX9_lowestOf 12 = .ok (.iinc 2 1, 3) := by decide +kernel
theorem dX9_lowestOf_15 : decode cX9_lowestOf 15 = .ok (.goto (-13), 3) := by decide +kernel
theorem dX9_lowestOf_18 : decode cX9_lowestOf 18 = .ok (.iload_n 2, 1) := by decide +kernel
theorem dX9_lowestOf_19 : decode cX9_lowestOf 19 = .ok (.ireturn, 1) := by decide +kernel
set_option maxRecDepth 20000 in
theorem ggX9_moved_X9_nextOf : GoodIn wsX9_moved wsX9_nextOf := goodIn_r _ [8, 1, 13, 14, 15, 16, 17, 18, 19, 20, 21, 22, 23, 24, 25, 26, 27, 28, 29, 30, 31, 32, 33, 34, 35, 36, 37, 38, 39, 40, 41, 42, 43, 44, 45] (by decide +kernel) (by decide +kernel)
set_option maxRecDepth 20000 in
theorem gX9_moved_X9_nextOf : GoodIn wsX9_moved (wsV RX9 161 RX9 yX9_nextOf wsX9_nextOf) := goodIn_app (goodIn_of _ (by decide +kernel)) ggX9_moved_X9_nextOf
set_option maxRecDepth 20000 in
theorem ggX9_moved_X9_lowestOf : GoodIn wsX9_moved wsX9_lowestOf := goodIn_r _ [12, 3, 13, 14, 15, 16, 17, 18, 19, 20, 21, 22, 23, 24, 25, 26, 27, 28, 29, 30, 31, 32, 33, 34, 35, 36, 37, 38, 39, 40, 41, 42, 43, 44, 45] (by decide +kernel) (by decide +kernel)
set_option maxRecDepth 20000 in
theorem gX9_moved_X9_lowestOf : GoodIn wsX9_moved (wsV RX9 167 RX9 yX9_lowestOf wsX9_lowestOf) := goodIn_app (goodIn_of _ (by decide +kernel)) ggX9_moved_X9_lowestOf
theorem dX9_moved_0 : decode cX9_moved 0 = .ok (.iload_n 2, 1) := by decide +kernel
theorem dX9_moved_1 : decode cX9_moved 1 = .ok (.tableswitch 112 1 3 #[27, 33, 86], 27) := by decide +kernel
theorem dX9_moved_28 : decode cX9_moved 28 = .ok (.aload_n 0, 1) := by decide +kernel
theorem dX9_moved_29 : decode cX9_moved 29 = .ok (.iload_n 1, 1) := by decide +kernel
theorem dX9_moved_30 : decode cX9_moved 30 = .ok (.invokevirtual 161, 3) := by decide +kernel
theorem dX9_moved_33 : decode cX9_moved 33 = .ok (.ireturn, 1) := by decide +kernel
theorem dX9_moved_34 : decode cX9_moved 34 = .ok (.aload_n 0, 1) := by decide +kernel
theorem dX9_moved_35 : decode cX9_moved 35 = .ok (.iload_n 1, 1) := by decide +kernel
theorem dX9_moved_36 : decode cX9_moved 36 = .ok (.iconst 1, 1) := by decide +kernel
theorem dX9_moved_37 : decode cX9_moved 37 = .ok (.iadd, 1) := by decide +kernel
theorem dX9_moved_38 : decode cX9_moved 38 = .ok (.aload_n 0, 1) := by decide +kernel
theorem dX9_moved_39 : decode cX9_moved 39 = .ok (.getfield 13, 3) := by decide +kernel
theorem dX9_moved_42 : decode cX9_moved 42 = .ok (.iconst 0, 1) := by decide +kernel
theorem dX9_moved_43 : decode cX9_moved 43 = .ok (.iaload, 1) := by decide +kernel
theorem dX9_moved_44 : decode cX9_moved 44 = .ok (.if_icmp .lt 7, 3) := by decide +kernel
theorem dX9_moved_47 : decode cX9_moved 47 = .ok (.iconst (-1), 1) := by decide +kernel
theorem dX9_moved_48 : decode cX9_moved 48 = .ok (.goto 15, 3) := by decide +kernel
theorem dX9_moved_51 : decode cX9_moved 51 = .ok (.iload_n 1, 1) := by decide +kernel
theorem dX9_moved_52 : decode cX9_moved 52 = .ok (.ifCond .ne 7, 3) := by decide +kernel
theorem dX9_moved_55 : decode cX9_moved 55 = .ok (.iconst 1, 1) := by decide +kernel
theorem dX9_moved_56 : decode cX9_moved 56 = .ok (.goto 7, 3) := by decide +kernel
theorem dX9_moved_59 : decode cX9_moved 59 = .ok (.aload_n 0, 1) := by decide +kernel
theorem dX9_moved_60 : decode cX9_moved 60 = .ok (.getfield 164, 3) := by decide +kernel
theorem dX9_moved_63 : decode cX9_moved 63 = .ok (.putfield 164, 3) := by decide +kernel
theorem dX9_moved_66 : decode cX9_moved 66 = .ok (.aload_n 0, 1) := by decide +kernel
theorem dX9_moved_67 : decode cX9_moved 67 = .ok (.getfield 13, 3) := by decide +kernel
theorem dX9_moved_70 : decode cX9_moved 70 = .ok (.iconst 0, 1) := by decide +kernel
theorem dX9_moved_71 : decode cX9_moved 71 = .ok (.iaload, 1) := by decide +kernel
theorem dX9_moved_72 : decode cX9_moved 72 = .ok (.iconst 1, 1) := by decide +kernel
theorem dX9_moved_73 : decode cX9_moved 73 = .ok (.if_icmp .ne 7, 3) := by decide +kernel
theorem dX9_moved_76 : decode cX9_moved 76 = .ok (.iconst 0, 1) := by decide +kernel
theorem dX9_moved_77 : decode cX9_moved 77 = .ok (.goto 9, 3) := by decide +kernel
theorem dX9_moved_80 : decode cX9_moved 80 = .ok (.iload_n 1, 1) := by decide +kernel
theorem dX9_moved_81 : decode cX9_moved 81 = .ok (.aload_n 0, 1) := by decide +kernel
theorem dX9_moved_82 : decode cX9_moved 82 = .ok (.getfield 164, 3) := by decide +kernel
theorem dX9_moved_85 : decode cX9_moved 85 = .ok (.iadd, 1) := by decide +kernel
theorem dX9_moved_86 : decode cX9_moved 86 = .ok (.ireturn, 1) := by decide +kernel
theorem dX9_moved_87 : decode cX9_moved 87 = .ok (.aload_n 0, 1) := by decide +kernel
theorem dX9_moved_88 : decode cX9_moved 88 = .ok (.aload_n 0, 1) := by decide +kernel
theorem dX9_moved_89 : decode cX9_moved 89 = .ok (.getfield 16, 3) := by decide +kernel
theorem dX9_moved_92 : decode cX9_moved 92 = .ok (.iload_n 1, 1) := by decide +kernel
theorem dX9_moved_93 : decode cX9_moved 93 = .ok (.iaload, 1) := by decide +kernel
theorem dX9_moved_94 : decode cX9_moved 94 = .ok (.invokevirtual 167, 3) := by decide +kernel
theorem dX9_moved_97 : decode cX9_moved 97 = .ok (.istore_n 3, 1) := by decide +kernel
theorem dX9_moved_98 : decode cX9_moved 98 = .ok (.iload_n 1, 1) := by decide +kernel
theorem dX9_moved_99 : decode cX9_moved 99 = .ok (.iload_n 3, 1) := by decide +kernel
theorem dX9_moved_100 : decode cX9_moved 100 = .ok (.if_icmp .ne 11, 3) := by decide +kernel
theorem dX9_moved_103 : decode cX9_moved 103 = .ok (.aload_n 0, 1) := by decide +kernel
theorem dX9_moved_104 : decode cX9_moved 104 = .ok (.iload_n 1, 1) := by decide +kernel
theorem dX9_moved_105 : decode cX9_moved 105 = .ok (.invokevirtual 161, 3) := by decide +kernel
theorem dX9_moved_108 : decode cX9_moved 108 = .ok (.goto 4, 3) := by decide +kernel
theorem dX9_moved_111 : decode cX9_moved 111 = .ok (.iload_n 3, 1) := by decide +kernel
theorem dX9_moved_112 : decode cX9_moved 112 = .ok (.ireturn, 1) := by decide +kernel
theorem dX9_moved_113 : decode cX9_moved 113 = .ok (.iload_n 1, 1) := by decide +kernel
theorem dX9_moved_114 : decode cX9_moved 114 = .ok (.ireturn, 1) := by decide +kernel
set_option maxRecDepth 20000 in
theorem ggX9_placeOn_X9_moved : GoodIn wsX9_placeOn wsX9_moved := goodIn_r _ [6, 7, 1, 8, 9, 10, 11, 5, 12, 13, 14, 15, 16, 17, 18, 19, 20, 21, 22, 23, 24, 25, 26, 27, 28, 29, 30, 31, 32, 33, 34, 35, 36, 37, 38, 39, 40, 41, 42, 43, 44, 45, 46, 47, 48, 49] (by decide +kernel) (by decide +kernel)
set_option maxRecDepth 20000 in
theorem gX9_placeOn_X9_moved : GoodIn wsX9_placeOn (wsV RX9 170 RX9 yX9_moved wsX9_moved) := goodIn_app (goodIn_of _ (by decide +kernel)) ggX9_placeOn_X9_moved
theorem dX9_placeOn_0 : decode cX9_placeOn 0 = .ok (.aload_n 0, 1) := by decide +kernel
theorem dX9_placeOn_1 : decode cX9_placeOn 1 = .ok (.iconst 1, 1) := by decide +kernel
theorem dX9_placeOn_2 : decode cX9_placeOn 2 = .ok (.putfield 164, 3) := by decide +kernel
theorem dX9_placeOn_5 : decode cX9_placeOn 5 = .ok (.iload_n 1, 1) := by decide +kernel
theorem dX9_placeOn_6 : decode cX9_placeOn 6 = .ok (.istore 4, 2) := by decide +kernel
theorem dX9_placeOn_8 : decode cX9_placeOn 8 = .ok (.iconst 1, 1) := by decide +kernel
theorem dX9_placeOn_9 : decode cX9_placeOn 9 = .ok (.istore 5, 2) := by decide +kernel
theorem dX9_placeOn_11 : decode cX9_placeOn 11 = .ok (.iload 5, 2) := by decide +kernel
theorem dX9_placeOn_13 : decode cX9_placeOn 13 = .ok (.iload_n 3, 1) := by decide +kernel
theorem dX9_placeOn_14 : decode cX9_placeOn 14 = .ok (.if_icmp .ge 18, 3) := by decide +kernel
theorem dX9_placeOn_17 : decode cX9_placeOn 17 = .ok (.aload_n 0, 1) := by decide +kernel
theorem dX9_placeOn_18 : decode cX9_placeOn 18 = .ok (.iload 4, 2) := by decide +kernel
theorem dX9_placeOn_20 : decode cX9_placeOn 20 = .ok (.iload_n 2, 1) := by decide +kernel
theorem dX9_placeOn_21 : decode cX9_placeOn 21 = .ok (.invokevirtual 170, 3) := by decide +kernel
theorem dX9_placeOn_24 : decode cX9_placeOn 24 = .ok (.istore 4, 2) := by decide +kernel
theorem dX9_placeOn_26 : decode cX9_placeOn 26 = .ok (.iinc 5 1, 3) := by decide +kernel
theorem dX9_placeOn_29 : decode cX9_placeOn 29 = .ok (.goto (-18), 3) := by decide +kernel
theorem dX9_placeOn_32 : decode cX9_placeOn 32 = .ok (.iload 4, 2) := by decide +kernel
theorem dX9_placeOn_34 : decode cX9_placeOn 34 = .ok (.ireturn, 1) := by decide +kernel
theorem dX9_sizeOn_0 : decode cX9_sizeOn 0 = .ok (.aload_n 0, 1) := by decide +kernel
theorem dX9_sizeOn_1 : decode cX9_sizeOn 1 = .ok (.getfield 25, 3) := by decide +kernel
theorem dX9_sizeOn_4 : decode cX9_sizeOn 4 = .ok (.iload_n 1, 1) := by decide +kernel
theorem dX9_sizeOn_5 : decode cX9_sizeOn 5 = .ok (.iaload, 1) := by decide +kernel
theorem dX9_sizeOn_6 : decode cX9_sizeOn 6 = .ok (.aload_n 0, 1) := by decide +kernel
theorem dX9_sizeOn_7 : decode cX9_sizeOn 7 = .ok (.getfield 31, 3) := by decide +kernel
theorem dX9_sizeOn_10 : decode cX9_sizeOn 10 = .ok (.iconst 0, 1) := by decide +kernel
theorem dX9_sizeOn_11 : decode cX9_sizeOn 11 = .ok (.iaload, 1) := by decide +kernel
theorem dX9_sizeOn_12 : decode cX9_sizeOn 12 = .ok (.ifCond .ne 7, 3) := by decide +kernel
theorem dX9_sizeOn_15 : decode cX9_sizeOn 15 = .ok (.iconst 0, 1) := by decide +kernel
theorem dX9_sizeOn_16 : decode cX9_sizeOn 16 = .ok (.goto 11, 3) := by decide +kernel
theorem dX9_sizeOn_19 : decode cX9_sizeOn 19 = .ok (.iload_n 2, 1) := by decide +kernel
theorem dX9_sizeOn_20 : decode cX9_sizeOn 20 = .ok (.aload_n 0, 1) := by decide +kernel
theorem dX9_sizeOn_21 : decode cX9_sizeOn 21 = .ok (.getfield 31, 3) := by decide +kernel
theorem dX9_sizeOn_24 : decode cX9_sizeOn 24 = .ok (.iconst 0, 1) := by decide +kernel
theorem dX9_sizeOn_25 : decode cX9_sizeOn 25 = .ok (.iaload, 1) := by decide +kernel
theorem dX9_sizeOn_26 : decode cX9_sizeOn 26 = .ok (.idiv, 1) := by decide +kernel
theorem dX9_sizeOn_27 : decode cX9_sizeOn 27 = .ok (.isub, 1) := by decide +kernel
theorem dX9_sizeOn_28 : decode cX9_sizeOn 28 = .ok (.istore_n 3, 1) := by decide +kernel
theorem dX9_sizeOn_29 : decode cX9_sizeOn 29 = .ok (.iload_n 3, 1) := by decide +kernel
theorem dX9_sizeOn_30 : decode cX9_sizeOn 30 = .ok (.iconst 1, 1) := by decide +kernel
theorem dX9_sizeOn_31 : decode cX9_sizeOn 31 = .ok (.if_icmp .ge 7, 3) := by decide +kernel
theorem dX9_sizeOn_34 : decode cX9_sizeOn 34 = .ok (.iconst 1, 1) := by decide +kernel
theorem dX9_sizeOn_35 : decode cX9_sizeOn 35 = .ok (.goto 4, 3) := by decide +kernel
theorem dX9_sizeOn_38 : decode cX9_sizeOn 38 = .ok (.iload_n 3, 1) := by decide +kernel
theorem dX9_sizeOn_39 : decode cX9_sizeOn 39 = .ok (.ireturn, 1) := by decide +kernel
set_option maxRecDepth 20000 in
theorem ggX9_doesFit_X9_sizeOn : GoodIn wsX9_doesFit wsX9_sizeOn := goodIn_r _ [8, 1, 9, 13, 14, 15, 16, 17, 18, 19, 20, 21, 22, 23, 24, 25, 26, 27, 28, 29, 30, 31, 32, 33, 34, 35, 36, 37, 38, 39, 40, 41, 42, 43, 44, 45] (by decide +kernel) (by decide +kernel)
set_option maxRecDepth 20000 in
theorem gX9_doesFit_X9_sizeOn : GoodIn wsX9_doesFit (wsV RX9 174 RX9 yX9_sizeOn wsX9_sizeOn) := goodIn_app (goodIn_of _ (by decide +kernel)) ggX9_doesFit_X9_sizeOn
set_option maxRecDepth 20000 in
theorem ggX9_doesFit_X9_in : GoodIn wsX9_doesFit wsX9_in := goodIn_r _ [12] (by decide +kernel) (by decide +kernel)
set_option maxRecDepth 20000 in
theorem gX9_doesFit_X9_in : GoodIn wsX9_doesFit (va_wsS RX9 101 yX9_in wsX9_in) := goodIn_app (goodIn_of _ (by decide +kernel)) ggX9_doesFit_X9_in
theorem dX9_doesFit_0 : decode cX9_doesFit 0 = .ok (.aload_n 0, 1) := by decide +kernel
theorem dX9_doesFit_1 : decode cX9_doesFit 1 = .ok (.iload_n 2, 1) := by decide +kernel
theorem dX9_doesFit_2 : decode cX9_doesFit 2 = .ok (.iload_n 3, 1) := by decide +kernel
theorem dX9_doesFit_3 : decode cX9_doesFit 3 = .ok (.invokevirtual 174, 3) := by decide +kernel
theorem dX9_doesFit_6 : decode cX9_doesFit 6 = .ok (.aload_n 0, 1) := by decide +kernel
theorem dX9_doesFit_7 : decode cX9_doesFit 7 = .ok (.getfield 25, 3) := by decide +kernel
theorem dX9_doesFit_10 : decode cX9_doesFit 10 = .ok (.iload_n 1, 1) := by decide +kernel
theorem dX9_doesFit_11 : decode cX9_doesFit 11 = .ok (.iaload, 1) := by decide +kernel
theorem dX9_doesFit_12 : decode cX9_doesFit 12 = .ok (.isub, 1) := by decide +kernel
theorem dX9_doesFit_13 : decode cX9_doesFit 13 = .ok (.istore 4, 2) := by decide +kernel
theorem dX9_doesFit_15 : decode cX9_doesFit 15 = .ok (.iload 4, 2) := by decide +kernel
theorem dX9_doesFit_17 : decode cX9_doesFit 17 = .ok (.i2l, 1) := by decide +kernel
theorem dX9_doesFit_18 : decode cX9_doesFit 18 = .ok (.ldc2_w 177, 3) := by decide +kernel
theorem dX9_doesFit_21 : decode cX9_doesFit 21 = .ok (.ldc2_w 122, 3) := by decide +kernel
theorem dX9_doesFit_24 : decode cX9_doesFit 24 = .ok (.invokestatic 101, 3) := by decide +kernel
theorem dX9_doesFit_27 : decode cX9_doesFit 27 = .ok (.ireturn, 1) := by decide +kernel
set_option maxRecDepth 20000 in
theorem ggX9_goLook_X9_placeOn : GoodIn wsX9_goLook wsX9_placeOn := goodIn_r _ [13, 14, 15, 16, 17, 12, 18, 19, 20, 21, 22, 23, 24, 25, 26, 27, 28, 44, 45, 46, 47, 48, 49, 50, 51, 52, 53, 54, 55, 56, 57, 58, 59, 60, 61, 62, 63, 64, 65, 66, 67, 68, 69, 70, 71, 72, 73, 74, 75, 76] (by decide +kernel) (by decide +kernel)
set_option maxRecDepth 20000 in
theorem gX9_goLook_X9_placeOn : GoodIn wsX9_goLook (wsV RX9 179 RX9 yX9_placeOn wsX9_placeOn) := goodIn_app (goodIn_of _ (by decide +kernel)) ggX9_goLook_X9_placeOn
set_option maxRecDepth 20000 in
theorem ggX9_goLook_X9_doesFit : GoodIn wsX9_goLook wsX9_doesFit := goodIn_r _ [32, 33, 34, 35, 36, 37, 38, 12, 39, 40, 41, 42, 43, 44, 45, 46, 47, 48, 49, 50, 51, 52, 53, 54, 55, 56, 57, 58, 59, 60, 61, 62, 63, 64, 65, 66, 67, 68, 69, 70, 71, 72, 73, 74, 75, 76] (by decide +kernel) (by decide +kernel)
set_option maxRecDepth 20000 in
theorem gX9_goLook_X9_doesFit : GoodIn wsX9_goLook (wsV RX9 183 RX9 yX9_doesFit wsX9_doesFit) := goodIn_app (goodIn_of _ (by decide +kernel)) ggX9_goLook_X9_doesFit
theorem dX9_goLook_0 : decode cX9_goLook 0 = .ok (.aload_n 0, 1) := by decide +kernel
theorem dX9_goLook_1 : decode cX9_goLook 1 = .ok (.getfield 43, 3) := by decide +kernel
theorem dX9_goLook_4 : decode cX9_goLook 4 = .ok (.iload_n 1, 1) := by decide +kernel
theorem dX9_goLook_5 : decode cX9_goLook 5 = .ok (.iaload, 1) := by decide +kernel
theorem dX9_goLook_6 : decode cX9_goLook 6 = .ok (.istore_n 3, 1) := by decide +kernel
theorem dX9_goLook_7 : decode cX9_goLook 7 = .ok (.iconst 0, 1) := by decide +kernel
theorem dX9_goLook_8 : decode cX9_goLook 8 = .ok (.istore 4, 2) := by decide +kernel
theorem dX9_goLook_10 : decode cX9_goLook 10 = .ok (.iload 4, 2) := by decide +kernel
theorem dX9_goLook_12 : decode cX9_goLook 12 = .ok (.aload_n 0, 1) := by decide +kernel
theorem dX9_goLook_13 : decode cX9_goLook 13 = .ok (.getfield 22, 3) := by decide +kernel
theorem dX9_goLook_16 : decode cX9_goLook 16 = .ok (.iconst 0, 1) := by decide +kernel
theorem dX9_goLook_17 : decode cX9_goLook 17 = .ok (.iaload, 1) := by decide +kernel
theorem dX9_goLook_18 : decode cX9_goLook 18 = .ok (.if_icmp .ge 102, 3) := by decide +kernel
theorem dX9_goLook_21 : decode cX9_goLook 21 = .ok (.aload_n 0, 1) := by decide +kernel
theorem dX9_goLook_22 : decode cX9_goLook 22 = .ok (.getfield 73, 3) := by decide +kernel
theorem dX9_goLook_25 : decode cX9_goLook 25 = .ok (.iload_n 3, 1) := by decide +kernel
theorem dX9_goLook_26 : decode cX9_goLook 26 = .ok (.iaload, 1) := by decide +kernel
theorem dX9_goLook_27 : decode cX9_goLook 27 = .ok (.ifCond .ge 93, 3) := by decide +kernel
theorem dX9_goLook_30 : decode cX9_goLook 30 = .ok (.aload_n 0, 1) := by decide +kernel
theorem dX9_goLook_31 : decode cX9_goLook 31 = .ok (.getfield 70, 3) := by decide +kernel
theorem dX9_goLook_34 : decode cX9_goLook 34 = .ok (.iload 4, 2) := by decide +kernel
theorem dX9_goLook_36 : decode cX9_goLook 36 = .ok (.iaload, 1) := by decide +kernel
theorem dX9_goLook_37 : decode cX9_goLook 37 = .ok (.ifCond .ge 35, 3) := by decide +kernel
theorem dX9_goLook_40 : decode cX9_goLook 40 = .ok (.aload_n 0, 1) := by decide +kernel
theorem dX9_goLook_41 : decode cX9_goLook 41 = .ok (.aload_n 0, 1) := by decide +kernel
theorem dX9_goLook_42 : decode cX9_goLook 42 = .ok (.getfield 37, 3) := by decide +kernel
theorem dX9_goLook_45 : decode cX9_goLook 45 = .ok (.iload 4, 2) := by decide +kernel
theorem dX9_goLook_47 : decode cX9_goLook 47 = .ok (.iaload, 1) := by decide +kernel
theorem dX9_goLook_48 : decode cX9_goLook 48 = .ok (.aload_n 0, 1) := by decide +kernel
theorem dX9_goLook_49 : decode cX9_goLook 49 = .ok (.getfield 28, 3) := by decide +kernel
theorem dX9_goLook_52 : decode cX9_goLook 52 = .ok (.iload 4, 2) := by decide +kernel
theorem dX9_goLook_54 : decode cX9_goLook 54 = .ok (.iaload, 1) := by decide +kernel
theorem dX9_goLook_55 : decode cX9_goLook 55 = .ok (.iload_n 2, 1) := by decide +kernel
theorem dX9_goLook_56 : decode cX9_goLook 56 = .ok (.invokevirtual 179, 3) := by decide +kernel
theorem dX9_goLook_59 : decode cX9_goLook 59 = .ok (.aload_n 0, 1) := by decide +kernel
theorem dX9_goLook_60 : decode cX9_goLook 60 = .ok (.getfield 46, 3) := by decide +kernel
theorem dX9_goLook_63 : decode cX9_goLook 63 = .ok (.iload_n 1, 1) := by decide +kernel
theorem dX9_goLook_64 : decode cX9_goLook 64 = .ok (.iaload, 1) := by decide +kernel
theorem dX9_goLook_65 : decode cX9_goLook 65 = .ok (.if_icmp .ne 7, 3) := by decide +kernel
theorem dX9_goLook_68 : decode cX9_goLook 68 = .ok (.iconst 1, 1) := by decide +kernel
theorem dX9_goLook_69 : decode cX9_goLook 69 = .ok (.goto 4, 3) := by decide +kernel
theorem dX9_goLook_72 : decode cX9_goLook 72 = .ok (.iconst 0, 1) := by decide +kernel
theorem dX9_goLook_73 : decode cX9_goLook 73 = .ok (.istore 5, 2) := by decide +kernel
theorem dX9_goLook_75 : decode cX9_goLook 75 = .ok (.iload 5, 2) := by decide +kernel
theorem dX9_goLook_77 : decode cX9_goLook 77 = .ok (.ifCond .eq 37, 3) := by decide +kernel
theorem dX9_goLook_80 : decode cX9_goLook 80 = .ok (.aload_n 0, 1) := by decide +kernel
theorem dX9_goLook_81 : decode cX9_goLook 81 = .ok (.iload_n 3, 1) := by decide +kernel
theorem dX9_goLook_82 : decode cX9_goLook 82 = .ok (.iload 4, 2) := by decide +kernel
theorem dX9_goLook_84 : decode cX9_goLook 84 = .ok (.iload_n 2, 1) := by decide +kernel
theorem dX9_goLook_85 : decode cX9_goLook 85 = .ok (.invokevirtual 183, 3) := by decide +kernel
theorem dX9_goLook_88 : decode cX9_goLook 88 = .ok (.ifCond .eq 26, 3) := by decide +kernel
theorem dX9_goLook_91 : decode cX9_goLook 91 = .ok (.aload_n 0, 1) := by decide +kernel
theorem dX9_goLook_92 : decode cX9_goLook 92 = .ok (.getfield 70, 3) := by decide +kernel
theorem dX9_goLook_95 : decode cX9_goLook 95 = .ok (.iload 4, 2) := by decide +kernel
theorem dX9_goLook_97 : decode cX9_goLook 97 = .ok (.iload_n 3, 1) := by decide +kernel
theorem dX9_goLook_98 : decode cX9_goLook 98 = .ok (.iastore, 1) := by decide +kernel
theorem dX9_goLook_99 : decode cX9_goLook 99 = .ok (.aload_n 0, 1) := by decide +kernel
theorem dX9_goLook_100 : decode cX9_goLook 100 = .ok (.getfield 73, 3) := by decide +kernel
theorem dX9_goLook_103 : decode cX9_goLook 103 = .ok (.iload_n 3, 1) := by decide +kernel
theorem dX9_goLook_104 : decode cX9_goLook 104 = .ok (.iload 4, 2) := by decide +kernel
theorem dX9_goLook_106 : decode cX9_goLook 106 = .ok (.iastore, 1) := by decide +kernel
theorem dX9_goLook_107 : decode cX9_goLook 107 = .ok (.aload_n 0, 1) := by decide +kernel
theorem dX9_goLook_108 : decode cX9_goLook 108 = .ok (.getfield 76, 3) := by decide +kernel
theorem dX9_goLook_111 : decode cX9_goLook 111 = .ok (.iload_n 3, 1) := by decide +kernel
theorem dX9_goLook_112 : decode cX9_goLook 112 = .ok (.iload_n 2, 1) := by decide +kernel
theorem dX9_goLook_113 : decode cX9_goLook 113 = .ok (.iastore, 1) := by decide +kernel
theorem dX9_goLook_114 : decode cX9_goLook 114 = .ok (.iinc 4 1, 3) := by decide +kernel
theorem dX9_goLook_117 : decode cX9_goLook 117 = .ok (.goto (-107), 3) := by decide +kernel
theorem dX9_goLook_120 : decode cX9_goLook 120 = .ok (.return_, 1) := by decide +kernel
set_option maxRecDepth 20000 in
theorem ggX9_goAll_X9_goLook : GoodIn wsX9_goAll wsX9_goLook := goodIn_r _ [10, 11, 12, 2, 1, 13, 14, 15, 3, 16, 17, 18, 9, 19, 20, 21, 22, 23, 24, 25, 26, 27, 28, 29, 30, 31, 32, 33, 34, 35, 36, 37, 38, 39, 40, 41, 42, 43, 44, 45, 46, 47, 48, 49, 50, 51, 52, 53, 54, 55, 56, 57, 58, 59, 60, 61, 62, 63, 64, 65, 66, 67, 68, 69, 70, 71, 72, 73, 74, 75, 76, 77, 78, 79, 80, 81, 82] (by decide +kernel) (by decide +kernel)
set_option maxRecDepth 20000 in
theorem gX9_goAll_X9_goLook : GoodIn wsX9_goAll (wsV RX9 187 RX9 yX9_goLook wsX9_goLook) := goodIn_app (goodIn_of _ (by decide +kernel)) ggX9_goAll_X9_goLook
theorem dX9_goAll_0 : decode cX9_goAll 0 = .ok (.iconst 0, 1) := by decide +kernel
theorem dX9_goAll_1 : decode cX9_goAll 1 = .ok (.istore_n 1, 1) := by decide +kernel
theorem dX9_goAll_2 : decode cX9_goAll 2 = .ok (.iload_n 1, 1) := by decide +kernel
theorem dX9_goAll_3 : decode cX9_goAll 3 = .ok (.iconst 5, 1) := by decide +kernel
theorem dX9_goAll_4 : decode cX9_goAll 4 = .ok (.if_icmp .ge 33, 3) := by decide +kernel
theorem dX9_goAll_7 : decode cX9_goAll 7 = .ok (.aload_n 0, 1) := by decide +kernel
theorem dX9_goAll_8 : decode cX9_goAll 8 = .ok (.getfield 70, 3) := by decide +kernel
theorem dX9_goAll_11 : decode cX9_goAll 11 = .ok (.iload_n 1, 1) := by decide +kernel
theorem dX9_goAll_12 : decode cX9_goAll 12 = .ok (.bipush (-4), 2) := by decide +kernel
theorem dX9_goAll_14 : decode cX9_goAll 14 = .ok (.iastore, 1) := by decide +kernel
theorem dX9_goAll_15 : decode cX9_goAll 15 = .ok (.aload_n 0, 1) := by decide +kernel
theorem dX9_goAll_16 : decode cX9_goAll 16 = .ok (.getfield 73, 3) := by decide +kernel
theorem dX9_goAll_19 : decode cX9_goAll 19 = .ok (.iload_n 1, 1) := by decide +kernel
theorem dX9_goAll_20 : decode cX9_goAll 20 = .ok (.bipush (-4), 2) := by decide +kernel
theorem dX9_goAll_22 : decode cX9_goAll 22 = .ok (.iastore, 1) := by decide +kernel
theorem dX9_goAll_23 : decode cX9_goAll 23 = .ok (.aload_n 0, 1) := by decide +kernel
theorem dX9_goAll_24 : decode cX9_goAll 24 = .ok (.getfield 76, 3) := by decide +kernel
theorem dX9_goAll_27 : decode cX9_goAll 27 = .ok (.iload_n 1, 1) := by decide +kernel
theorem dX9_goAll_28 : decode cX9_goAll 28 = .ok (.bipush (-4), 2) := by decide +kernel
theorem dX9_goAll_30 : decode cX9_goAll 30 = .ok (.iastore, 1) := by decide +kernel
theorem dX9_goAll_31 : decode cX9_goAll 31 = .ok (.iinc 1 1, 3) := by decide +kernel
theorem dX9_goAll_34 : decode cX9_goAll 34 = .ok (.goto (-32), 3) := by decide +kernel
theorem dX9_goAll_37 : decode cX9_goAll 37 = .ok (.iconst 1, 1) := by decide +kernel
theorem dX9_goAll_38 : decode cX9_goAll 38 = .ok (.istore_n 1, 1) := by decide +kernel
theorem dX9_goAll_39 : decode cX9_goAll 39 = .ok (.iload_n 1, 1) := by decide +kernel
theorem dX9_goAll_40 : decode cX9_goAll 40 = .ok (.bipush 60, 2) := by decide +kernel
theorem dX9_goAll_42 : decode cX9_goAll 42 = .ok (.if_icmp .gt 43, 3) := by decide +kernel
theorem dX9_goAll_45 : decode cX9_goAll 45 = .ok (.iconst 0, 1) := by decide +kernel
theorem dX9_goAll_46 : decode cX9_goAll 46 = .ok (.istore_n 2, 1) := by decide +kernel
theorem dX9_goAll_47 : decode cX9_goAll 47 = .ok (.iload_n 2, 1) := by decide +kernel
theorem dX9_goAll_48 : decode cX9_goAll 48 = .ok (.aload_n 0, 1) := by decide +kernel
theorem dX9_goAll_49 : decode cX9_goAll 49 = .ok (.getfield 40, 3) := by decide +kernel
theorem dX9_goAll_52 : decode cX9_goAll 52 = .ok (.iconst 0, 1) := by decide +kernel
theorem dX9_goAll_53 : decode cX9_goAll 53 = .ok (.iaload, 1) := by decide +kernel
theorem dX9_goAll_54 : decode cX9_goAll 54 = .ok (.if_icmp .ge 25, 3) := by decide +kernel
theorem dX9_goAll_57 : decode cX9_goAll 57 = .ok (.aload_n 0, 1) := by decide +kernel
theorem dX9_goAll_58 : decode cX9_goAll 58 = .ok (.getfield 49, 3) := by decide +kernel
theorem dX9_goAll_61 : decode cX9_goAll 61 = .ok (.iload_n 2, 1) := by decide +kernel
theorem dX9_goAll_62 : decode cX9_goAll 62 = .ok (.iaload, 1) := by decide +kernel
theorem dX9_goAll_63 : decode cX9_goAll 63 = .ok (.iload_n 1, 1) := by decide +kernel
theorem dX9_goAll_64 : decode cX9_goAll 64 = .ok (.if_icmp .ne 9, 3) := by decide +kernel
theorem dX9_goAll_67 : decode cX9_goAll 67 = .ok (.aload_n 0, 1) := by decide +kernel
theorem dX9_goAll_68 : decode cX9_goAll 68 = .ok (.iload_n 2, 1) := by decide +kernel
theorem dX9_goAll_69 : decode cX9_goAll 69 = .ok (.iload_n 1, 1) := by decide +kernel
theorem dX9_goAll_70 : decode cX9_goAll 70 = .ok (.invokevirtual 187, 3) := by decide +kernel
theorem dX9_goAll_73 : decode cX9_goAll 73 = .ok (.iinc 2 1, 3) := by decide +kernel
theorem dX9_goAll_76 : decode cX9_goAll 76 = .ok (.goto (-29), 3) := by decide +kernel
theorem dX9_goAll_79 : decode cX9_goAll 79 = .ok (.iinc 1 1, 3) := by decide +kernel
theorem dX9_goAll_82 : decode cX9_goAll 82 = .ok (.goto (-43), 3) := by decide +kernel
theorem dX9_goAll_85 : decode cX9_goAll 85 = .ok (.return_, 1) := by decide +kernel
theorem dX9_goesOn_0 : decode cX9_goesOn 0 = .ok (.aload_n 0, 1) := by decide +kernel
theorem dX9_goesOn_1 : decode cX9_goesOn 1 = .ok (.getfield 76, 3) := by decide +kernel
theorem dX9_goesOn_4 : decode cX9_goesOn 4 = .ok (.iload_n 1, 1) := by decide +kernel
theorem dX9_goesOn_5 : decode cX9_goesOn 5 = .ok (.iaload, 1) := by decide +kernel
theorem dX9_goesOn_6 : decode cX9_goesOn 6 = .ok (.ifCond .ge 8, 3) := by decide +kernel
theorem dX9_goesOn_9 : decode cX9_goesOn 9 = .ok (.bipush (-4), 2) := by decide +kernel
theorem dX9_goesOn_11 : decode cX9_goesOn 11 = .ok (.goto 32, 3) := by decide +kernel
theorem dX9_goesOn_14 : decode cX9_goesOn 14 = .ok (.aload_n 0, 1) := by decide +kernel
theorem dX9_goesOn_15 : decode cX9_goesOn 15 = .ok (.getfield 76, 3) := by decide +kernel
theorem dX9_goesOn_18 : decode cX9_goesOn 18 = .ok (.iload_n 1, 1) := by decide +kernel
theorem dX9_goesOn_19 : decode cX9_goesOn 19 = .ok (.iaload, 1) := by decide +kernel
theorem dX9_goesOn_20 : decode cX9_goesOn 20 = .ok (.aload_n 0, 1) := by decide +kernel
theorem dX9_goesOn_21 : decode cX9_goesOn 21 = .ok (.getfield 34, 3) := by decide +kernel
theorem dX9_goesOn_24 : decode cX9_goesOn 24 = .ok (.iconst 0, 1) := by decide +kernel
theorem dX9_goesOn_25 : decode cX9_goesOn 25 = .ok (.iaload, 1) := by decide +kernel
theorem dX9_goesOn_26 : decode cX9_goesOn 26 = .ok (.iadd, 1) := by decide +kernel
theorem dX9_goesOn_27 : decode cX9_goesOn 27 = .ok (.iconst 1, 1) := by decide +kernel
theorem dX9_goesOn_28 : decode cX9_goesOn 28 = .ok (.isub, 1) := by decide +kernel
theorem dX9_goesOn_29 : decode cX9_goesOn 29 = .ok (.aload_n 0, 1) := by decide +kernel
theorem dX9_goesOn_30 : decode cX9_goesOn 30 = .ok (.getfield 34, 3) := by decide +kernel
theorem dX9_goesOn_33 : decode cX9_goesOn 33 = .ok (.iconst 0, 1) := by decide +kernel
theorem dX9_goesOn_34 : decode cX9_goesOn 34 = .ok (.iaload, 1) := by decide +kernel
theorem dX9_goesOn_35 : decode cX9_goesOn 35 = .ok (.idiv, 1) := by decide +kernel
theorem dX9_goesOn_36 : decode cX9_goesOn 36 = .ok (.aload_n 0, 1) := by decide +kernel
theorem dX9_goesOn_37 : decode cX9_goesOn 37 = .ok (.getfield 34, 3) := by decide +kernel
theorem dX9_goesOn_40 : decode cX9_goesOn 40 = .ok (.iconst 0, 1) := by decide +kernel
theorem dX9_goesOn_41 : decode cX9_goesOn 41 = .ok (.iaload, 1) := by decide +kernel
theorem dX9_goesOn_42 : decode cX9_goesOn 42 = .ok (.imul, 1) := by decide +kernel
theorem dX9_goesOn_43 : decode cX9_goesOn 43 = .ok (.ireturn, 1) := by decide +kernel
set_option maxRecDepth 20000 in
theorem ggX9_wasFound_X9_goAll : GoodIn wsX9_wasFound wsX9_goAll := goodIn_r _ [7, 1, 8, 2, 9, 10, 11, 12, 13, 6, 14, 15, 16, 17, 18, 19, 20, 21, 22, 23, 24, 25, 26, 27, 28, 29, 30, 31, 32, 33, 34, 35, 36, 37, 38, 39, 40, 41, 42, 43, 44, 45, 46, 47, 48, 49, 50, 51, 52, 53, 54, 55, 56, 57, 58, 59, 60, 61, 62, 63, 64, 65, 66, 67, 68, 69, 70, 71, 72, 73, 74, 75, 76, 77, 78, 79, 80, 81, 82, 83, 84, 85, 86] (by decide +kernel) (by decide +kernel)
set_option maxRecDepth 20000 in
theorem gX9_wasFound_X9_goAll : GoodIn wsX9_wasFound (wsV RX9 190 RX9 yX9_goAll wsX9_goAll) := goodIn_app (goodIn_of _ (by decide +kernel)) ggX9_wasFound_X9_goAll
theorem dX9_wasFound_0 : decode cX9_wasFound 0 = .ok (.aload_n 0, 1) := by decide +kernel
theorem dX9_wasFound_1 : decode cX9_wasFound 1 = .ok (.invokevirtual 190, 3) := by decide +kernel
theorem dX9_wasFound_4 : decode cX9_wasFound 4 = .ok (.aload_n 0, 1) := by decide +kernel
theorem dX9_wasFound_5 : decode cX9_wasFound 5 = .ok (.getfield 70, 3) := by decide +kernel
theorem dX9_wasFound_8 : decode cX9_wasFound 8 = .ok (.iload_n 1, 1) := by decide +kernel
theorem dX9_wasFound_9 : decode cX9_wasFound 9 = .ok (.iaload, 1) := by decide +kernel
theorem dX9_wasFound_10 : decode cX9_wasFound 10 = .ok (.ifCond .lt 22, 3) := by decide +kernel
theorem dX9_wasFound_13 : decode cX9_wasFound 13 = .ok (.aload_n 0, 1) := by decide +kernel
theorem dX9_wasFound_14 : decode cX9_wasFound 14 = .ok (.getfield 76, 3) := by decide +kernel
theorem dX9_wasFound_17 : decode cX9_wasFound 17 = .ok (.aload_n 0, 1) := by decide +kernel
theorem dX9_wasFound_18 : decode cX9_wasFound 18 = .ok (.getfield 70, 3) := by decide +kernel
theorem dX9_wasFound_21 : decode cX9_wasFound 21 = .ok (.iload_n 1, 1) := by decide +kernel
theorem dX9_wasFound_22 : decode cX9_wasFound 22 = .ok (.iaload, 1) := by decide +kernel
theorem dX9_wasFound_23 : decode cX9_wasFound 23 = .ok (.iaload, 1) := by decide +kernel
theorem dX9_wasFound_24 : decode cX9_wasFound 24 = .ok (.iload_n 2, 1) := by decide +kernel
theorem dX9_wasFound_25 : decode cX9_wasFound 25 = .ok (.if_icmp .ge 7, 3) := by decide +kernel
theorem dX9_wasFound_28 : decode cX9_wasFound 28 = .ok (.iconst 1, 1) := by decide +kernel
theorem dX9_wasFound_29 : decode cX9_wasFound 29 = .ok (.goto 4, 3) := by decide +kernel
theorem dX9_wasFound_32 : decode cX9_wasFound 32 = .ok (.iconst 0, 1) := by decide +kernel
theorem dX9_wasFound_33 : decode cX9_wasFound 33 = .ok (.ireturn, 1) := by decide +kernel
set_option maxRecDepth 20000 in
theorem ggX9_skin_X9_isSkin : GoodIn wsX9_skin wsX9_isSkin := goodIn_r _ [10, 11, 12, 13, 9, 14, 59, 60, 61, 62, 63, 64, 65, 66, 67, 68, 69, 70, 71, 72, 73, 74, 75, 76, 77, 78, 79, 80, 81, 82, 83, 84, 85, 86, 87, 88, 89, 90, 91] (by decide +kernel) (by decide +kernel)
set_option maxRecDepth 20000 in
theorem gX9_skin_X9_isSkin : GoodIn wsX9_skin (wsV RX9 193 RX9 yX9_isSkin wsX9_isSkin) := goodIn_app (goodIn_of _ (by decide +kernel)) ggX9_skin_X9_isSkin
set_option maxRecDepth 20000 in
theorem ggX9_skin_X9_in : GoodIn wsX9_skin wsX9_in := goodIn_r _ [14] (by decide +kernel) (by decide +kernel)
set_option maxRecDepth 20000 in
theorem gX9_skin_X9_in : GoodIn wsX9_skin (va_wsS RX9 101 yX9_in wsX9_in) := goodIn_app (goodIn_of _ (by decide +kernel)) ggX9_skin_X9_in
set_option maxRecDepth 20000 in
theorem ggX9_skin_X9_goAll : GoodIn wsX9_skin wsX9_goAll := goodIn_r _ [18, 5, 19, 20, 21, 22, 23, 24, 25, 9, 26, 27, 11, 2, 4, 28, 29, 30, 31, 32, 33, 34, 35, 36, 37, 38, 39, 40, 41, 42, 43, 44, 45, 46, 47, 48, 49, 50, 51, 3, 52, 53, 54, 55, 56, 57, 58, 12, 13, 14, 59, 60, 61, 62, 63, 64, 65, 66, 67, 68, 69, 70, 71, 72, 73, 74, 75, 76, 77, 78, 79, 80, 81, 82, 83, 84, 85, 86, 87, 88, 89, 90, 91] (by decide +kernel) (by decide +kernel)
set_option maxRecDepth 20000 in
theorem gX9_skin_X9_goAll : GoodIn wsX9_skin (wsV RX9 190 RX9 yX9_goAll wsX9_goAll) := goodIn_app (goodIn_of _ (by decide +kernel)) ggX9_skin_X9_goAll
theorem dX9_skin_0 : decode cX9_skin 0 = .ok (.aload_n 0, 1) := by decide +kernel
theorem dX9_skin_1 : decode cX9_skin 1 = .ok (.iload_n 1, 1) := by decide +kernel
theorem dX9_skin_2 : decode cX9_skin 2 = .ok (.invokevirtual 193, 3) := by decide +kernel
theorem dX9_skin_5 : decode cX9_skin 5 = .ok (.ifCond .eq 15, 3) := by decide +kernel
theorem dX9_skin_8 : decode cX9_skin 8 = .ok (.iload_n 2, 1) := by decide +kernel
theorem dX9_skin_9 : decode cX9_skin 9 = .ok (.i2l, 1) := by decide +kernel
theorem dX9_skin_10 : decode cX9_skin 10 = .ok (.lconst 0, 1) := by decide +kernel
theorem dX9_skin_11 : decode cX9_skin 11 = .ok (.ldc2_w 196, 3) := by decide +kernel
theorem dX9_skin_14 : decode cX9_skin 14 = .ok (.invokestatic 101, 3) := by decide +kernel
theorem dX9_skin_17 : decode cX9_skin 17 = .ok (.ifCond .ne 5, 3) := by decide +kernel
theorem dX9_skin_20 : decode cX9_skin 20 = .ok (.iconst (-1), 1) := by decide +kernel
theorem dX9_skin_21 : decode cX9_skin 21 = .ok (.ireturn, 1) := by decide +kernel
theorem dX9_skin_22 : decode cX9_skin 22 = .ok (.aload_n 0, 1) := by decide +kernel
theorem dX9_skin_23 : decode cX9_skin 23 = .ok (.invokevirtual 190, 3) := by decide +kernel
theorem dX9_skin_26 : decode cX9_skin 26 = .ok (.iload_n 2, 1) := by decide +kernel
theorem dX9_skin_27 : decode cX9_skin 27 = .ok (.ifCond .ne 12, 3) := by decide +kernel
theorem dX9_skin_30 : decode cX9_skin 30 = .ok (.aload_n 0, 1) := by decide +kernel
theorem dX9_skin_31 : decode cX9_skin 31 = .ok (.getfield 37, 3) := by decide +kernel
theorem dX9_skin_34 : decode cX9_skin 34 = .ok (.iload_n 1, 1) := by decide +kernel
theorem dX9_skin_35 : decode cX9_skin 35 = .ok (.iaload, 1) := by decide +kernel
theorem dX9_skin_36 : decode cX9_skin 36 = .ok (.goto 37, 3) := by decide +kernel
theorem dX9_skin_39 : decode cX9_skin 39 = .ok (.iload_n 2, 1) := by decide +kernel
theorem dX9_skin_40 : decode cX9_skin 40 = .ok (.iconst 1, 1) := by decide +kernel
theorem dX9_skin_41 : decode cX9_skin 41 = .ok (.if_icmp .ne 12, 3) := by decide +kernel
theorem dX9_skin_44 : decode cX9_skin 44 = .ok (.aload_n 0, 1) := by decide +kernel
theorem dX9_skin_45 : decode cX9_skin 45 = .ok (.getfield 25, 3) := by decide +kernel
theorem dX9_skin_48 : decode cX9_skin 48 = .ok (.iload_n 1, 1) := by decide +kernel
theorem dX9_skin_49 : decode cX9_skin 49 = .ok (.iaload, 1) := by decide +kernel
theorem dX9_skin_50 : decode cX9_skin 50 = .ok (.goto 23, 3) := by decide +kernel
theorem dX9_skin_53 : decode cX9_skin 53 = .ok (.iload_n 2, 1) := by decide +kernel
theorem dX9_skin_54 : decode cX9_skin 54 = .ok (.iconst 2, 1) := by decide +kernel
theorem dX9_skin_55 : decode cX9_skin 55 = .ok (.if_icmp .ne 12, 3) := by decide +kernel
theorem dX9_skin_58 : decode cX9_skin 58 = .ok (.aload_n 0, 1) := by decide +kernel
theorem dX9_skin_59 : decode cX9_skin 59 = .ok (.getfield 28, 3) := by decide +kernel
theorem dX9_skin_62 : decode cX9_skin 62 = .ok (.iload_n 1, 1) := by decide +kernel
theorem dX9_skin_63 : decode cX9_skin 63 = .ok (.iaload, 1) := by decide +kernel
theorem dX9_skin_64 : decode cX9_skin 64 = .ok (.goto 9, 3) := by decide +kernel
theorem dX9_skin_67 : decode cX9_skin 67 = .ok (.aload_n 0, 1) := by decide +kernel
theorem dX9_skin_68 : decode cX9_skin 68 = .ok (.getfield 70, 3) := by decide +kernel
theorem dX9_skin_71 : decode cX9_skin 71 = .ok (.iload_n 1, 1) := by decide +kernel
theorem dX9_skin_72 : decode cX9_skin 72 = .ok (.iaload, 1) := by decide +kernel
theorem dX9_skin_73 : decode cX9_skin 73 = .ok (.ireturn, 1) := by decide +kernel
set_option maxRecDepth 20000 in
theorem ggX9_isDay_X9_in : GoodIn wsX9_isDay wsX9_in := goodIn_r _ [5] (by decide +kernel) (by decide +kernel)
set_option maxRecDepth 20000 in
theorem gX9_isDay_X9_in : GoodIn wsX9_isDay (va_wsS RX9 101 yX9_in wsX9_in) := goodIn_app (goodIn_of _ (by decide +kernel)) ggX9_isDay_X9_in
theorem dX9_isDay_0 : decode cX9_isDay 0 = .ok (.iload_n 0, 1) := by decide +kernel
theorem dX9_isDay_1 : decode cX9_isDay 1 = .ok (.i2l, 1) := by decide +kernel
theorem dX9_isDay_2 : decode cX9_isDay 2 = .ok (.lconst 1, 1) := by decide +kernel
theorem dX9_isDay_3 : decode cX9_isDay 3 = .ok (.ldc2_w 132, 3) := by decide +kernel
theorem dX9_isDay_6 : decode cX9_isDay 6 = .ok (.invokestatic 101, 3) := by decide +kernel
theorem dX9_isDay_9 : decode cX9_isDay 9 = .ok (.ireturn, 1) := by decide +kernel
set_option maxRecDepth 20000 in
theorem ggX9_where_X9_isSkin : GoodIn wsX9_where wsX9_isSkin := goodIn_r _ [7, 8, 9, 10, 6, 11, 66, 67, 68, 69, 70, 71, 72, 73, 74, 75, 76, 77, 78, 79, 80, 81, 82, 83, 84, 85, 86, 87, 88, 89, 90, 91, 92, 93, 94, 95, 96, 97, 98] (by decide +kernel) (by decide +kernel)
set_option maxRecDepth 20000 in
theorem gX9_where_X9_isSkin : GoodIn wsX9_where (wsV RX9 193 RX9 yX9_isSkin wsX9_isSkin) := goodIn_app (goodIn_of _ (by decide +kernel)) ggX9_where_X9_isSkin
set_option maxRecDepth 20000 in
theorem ggX9_where_X9_isDay : GoodIn wsX9_where wsX9_isDay := goodIn_r _ [14, 15, 9, 10, 6, 11] (by decide +kernel) (by decide +kernel)
set_option maxRecDepth 20000 in
theorem gX9_where_X9_isDay : GoodIn wsX9_where (va_wsS RX9 198 yX9_isDay wsX9_isDay) := goodIn_app (goodIn_of _ (by decide +kernel)) ggX9_where_X9_isDay
set_option maxRecDepth 20000 in
theorem ggX9_where_X9_wasFound : GoodIn wsX9_where wsX9_wasFound := goodIn_r _ [19, 20, 21, 22, 23, 24, 6, 25, 26, 27, 28, 29, 30, 31, 32, 33, 8, 1, 2, 34, 35, 36, 37, 38, 39, 40, 41, 42, 43, 44, 45, 46, 47, 48, 49, 50, 51, 52, 53, 54, 55, 56, 57, 58, 59, 60, 61, 62, 63, 64, 65, 9, 10, 11, 66, 67, 68, 69, 70, 71, 72, 73, 74, 75, 76, 77, 78, 79, 80, 81, 82, 83, 84, 85, 86, 87, 88, 89, 90, 91, 92, 93, 94, 95, 96, 97, 98] (by decide +kernel) (by decide +kernel)
set_option maxRecDepth 20000 in
theorem gX9_where_X9_wasFound : GoodIn wsX9_where (wsV RX9 201 RX9 yX9_wasFound wsX9_wasFound) := goodIn_app (goodIn_of _ (by decide +kernel)) ggX9_where_X9_wasFound
set_option maxRecDepth 20000 in
theorem ggX9_where_X9_placeOn : GoodIn wsX9_where wsX9_placeOn := goodIn_r _ [38, 39, 40, 41, 42, 6, 43, 44, 45, 46, 47, 48, 49, 50, 51, 52, 53, 66, 67, 68, 69, 70, 71, 72, 73, 74, 75, 76, 77, 78, 79, 80, 81, 82, 83, 84, 85, 86, 87, 88, 89, 90, 91, 92, 93, 94, 95, 96, 97, 98] (by decide +kernel) (by decide +kernel)
set_option maxRecDepth 20000 in
theorem gX9_where_X9_placeOn : GoodIn wsX9_where (wsV RX9 179 RX9 yX9_placeOn wsX9_placeOn) := goodIn_app (goodIn_of _ (by decide +kernel)) ggX9_where_X9_placeOn
theorem dX9_where_0 : decode cX9_where 0 = .ok (.aload_n 0, 1) := by decide +kernel
theorem dX9_where_1 : decode cX9_where 1 = .ok (.iload_n 1, 1) := by decide +kernel
theorem dX9_where_2 : decode cX9_where 2 = .ok (.invokevirtual 193, 3) := by decide +kernel
theorem dX9_where_5 : decode cX9_where 5 = .ok (.ifCond .eq 10, 3) := by decide +kernel
theorem dX9_where_8 : decode cX9_where 8 = .ok (.iload_n 2, 1) := by decide +kernel
theorem dX9_where_9 : decode cX9_where 9 = .ok (.invokestatic 198, 3) := by decide +kernel
theorem dX9_where_12 : decode cX9_where 12 = .ok (.ifCond .ne 5, 3) := by decide +kernel
theorem dX9_where_15 : decode cX9_where 15 = .ok (.iconst (-1), 1) := by decide +kernel
theorem dX9_where_16 : decode cX9_where 16 = .ok (.ireturn, 1) := by decide +kernel
theorem dX9_where_17 : decode cX9_where 17 = .ok (.aload_n 0, 1) := by decide +kernel
theorem dX9_where_18 : decode cX9_where 18 = .ok (.iload_n 1, 1) := by decide +kernel
theorem dX9_where_19 : decode cX9_where 19 = .ok (.iload_n 2, 1) := by decide +kernel
theorem dX9_where_20 : decode cX9_where 20 = .ok (.invokevirtual 201, 3) := by decide +kernel
theorem dX9_where_23 : decode cX9_where 23 = .ok (.ifCond .eq 8, 3) := by decide +kernel
theorem dX9_where_26 : decode cX9_where 26 = .ok (.bipush (-4), 2) := by decide +kernel
theorem dX9_where_28 : decode cX9_where 28 = .ok (.goto 20, 3) := by decide +kernel
theorem dX9_where_31 : decode cX9_where 31 = .ok (.aload_n 0, 1) := by decide +kernel
theorem dX9_where_32 : decode cX9_where 32 = .ok (.aload_n 0, 1) := by decide +kernel
theorem dX9_where_33 : decode cX9_where 33 = .ok (.getfield 37, 3) := by decide +kernel
theorem dX9_where_36 : decode cX9_where 36 = .ok (.iload_n 1, 1) := by decide +kernel
theorem dX9_where_37 : decode cX9_where 37 = .ok (.iaload, 1) := by decide +kernel
theorem dX9_where_38 : decode cX9_where 38 = .ok (.aload_n 0, 1) := by decide +kernel
theorem dX9_where_39 : decode cX9_where 39 = .ok (.getfield 28, 3) := by decide +kernel
theorem dX9_where_42 : decode cX9_where 42 = .ok (.iload_n 1, 1) := by decide +kernel
theorem dX9_where_43 : decode cX9_where 43 = .ok (.iaload, 1) := by decide +kernel
theorem dX9_where_44 : decode cX9_where 44 = .ok (.iload_n 2, 1) := by decide +kernel
theorem dX9_where_45 : decode cX9_where 45 = .ok (.invokevirtual 179, 3) := by decide +kernel
theorem dX9_where_48 : decode cX9_where 48 = .ok (.ireturn, 1) := by decide +kernel
set_option maxRecDepth 20000 in
theorem ggX9_size_X9_isSkin : GoodIn wsX9_size wsX9_isSkin := goodIn_r _ [5, 6, 7, 8, 4, 9, 66, 67, 68, 69, 70, 71, 72, 73, 74, 75, 76, 77, 78, 79, 80, 81, 82, 83, 84, 85, 86, 87, 88, 89, 90, 91, 92, 93, 94, 95, 96, 97, 98] (by decide +kernel) (by decide +kernel)
set_option maxRecDepth 20000 in
theorem gX9_size_X9_isSkin : GoodIn wsX9_size (wsV RX9 193 RX9 yX9_isSkin wsX9_isSkin) := goodIn_app (goodIn_of _ (by decide +kernel)) ggX9_size_X9_isSkin
set_option maxRecDepth 20000 in
theorem ggX9_size_X9_isDay : GoodIn wsX9_size wsX9_isDay := goodIn_r _ [12, 13, 7, 8, 4, 9] (by decide +kernel) (by decide +kernel)
set_option maxRecDepth 20000 in
theorem gX9_size_X9_isDay : GoodIn wsX9_size (va_wsS RX9 198 yX9_isDay wsX9_isDay) := goodIn_app (goodIn_of _ (by decide +kernel)) ggX9_size_X9_isDay
set_option maxRecDepth 20000 in
theorem ggX9_size_X9_wasFound : GoodIn wsX9_size wsX9_wasFound := goodIn_r _ [17, 18, 19, 20, 21, 22, 4, 23, 24, 25, 26, 27, 28, 29, 30, 31, 6, 32, 33, 34, 35, 36, 37, 38, 39, 40, 41, 42, 43, 44, 45, 46, 47, 48, 49, 50, 51, 52, 53, 54, 55, 56, 57, 58, 59, 60, 61, 62, 63, 64, 65, 7, 8, 9, 66, 67, 68, 69, 70, 71, 72, 73, 74, 75, 76, 77, 78, 79, 80, 81, 82, 83, 84, 85, 86, 87, 88, 89, 90, 91, 92, 93, 94, 95, 96, 97, 98] (by decide +kernel) (by decide +kernel)
set_option maxRecDepth 20000 in
theorem gX9_size_X9_wasFound : GoodIn wsX9_size (wsV RX9 201 RX9 yX9_wasFound wsX9_wasFound) := goodIn_app (goodIn_of _ (by decide +kernel)) ggX9_size_X9_wasFound
set_option maxRecDepth 20000 in
theorem ggX9_size_X9_sizeOn : GoodIn wsX9_size wsX9_sizeOn := goodIn_r _ [64, 58, 65, 66, 67, 68, 69, 70, 71, 72, 73, 74, 75, 76, 77, 78, 79, 80, 81, 82, 83, 84, 85, 86, 87, 88, 89, 90, 91, 92, 93, 94, 95, 96, 97, 98] (by decide +kernel) (by decide +kernel)
set_option maxRecDepth 20000 in
theorem gX9_size_X9_sizeOn : GoodIn wsX9_size (wsV RX9 174 RX9 yX9_sizeOn wsX9_sizeOn) := goodIn_app (goodIn_of _ (by decide +kernel)) ggX9_size_X9_sizeOn
theorem dX9_size_0 : decode cX9_size 0 = .ok (.aload_n 0, 1) := by decide +kernel
theorem dX9_size_1 : decode cX9_size 1 = .ok (.iload_n 1, 1) := by decide +kernel
theorem dX9_size_2 : decode cX9_size 2 = .ok (.invokevirtual 193, 3) := by decide +kernel
theorem dX9_size_5 : decode cX9_size 5 = .ok (.ifCond .eq 10, 3) := by decide +kernel
theorem dX9_size_8 : decode cX9_size 8 = .ok (.iload_n 2, 1) := by decide +kernel
theorem dX9_size_9 : decode cX9_size 9 = .ok (.invokestatic 198, 3) := by decide +kernel
theorem dX9_size_12 : decode cX9_size 12 = .ok (.ifCond .ne 5, 3) := by decide +kernel
theorem dX9_size_15 : decode cX9_size 15 = .ok (.iconst (-1), 1) := by decide +kernel
theorem dX9_size_16 : decode cX9_size 16 = .ok (.ireturn, 1) := by decide +kernel
theorem dX9_size_17 : decode cX9_size 17 = .ok (.aload_n 0, 1) := by decide +kernel
theorem dX9_size_18 : decode cX9_size 18 = .ok (.iload_n 1, 1) := by decide +kernel
theorem dX9_size_19 : decode cX9_size 19 = .ok (.iload_n 2, 1) := by decide +kernel
theorem dX9_size_20 : decode cX9_size 20 = .ok (.invokevirtual 201, 3) := by decide +kernel
theorem dX9_size_23 : decode cX9_size 23 = .ok (.ifCond .eq 8, 3) := by decide +kernel
theorem dX9_size_26 : decode cX9_size 26 = .ok (.bipush (-4), 2) := by decide +kernel
theorem dX9_size_28 : decode cX9_size 28 = .ok (.goto 9, 3) := by decide +kernel
theorem dX9_size_31 : decode cX9_size 31 = .ok (.aload_n 0, 1) := by decide +kernel
theorem dX9_size_32 : decode cX9_size 32 = .ok (.iload_n 1, 1) := by decide +kernel
theorem dX9_size_33 : decode cX9_size 33 = .ok (.iload_n 2, 1) := by decide +kernel
theorem dX9_size_34 : decode cX9_size 34 = .ok (.invokevirtual 174, 3) := by decide +kernel
theorem dX9_size_37 : decode cX9_size 37 = .ok (.ireturn, 1) := by decide +kernel
set_option maxRecDepth 20000 in
theorem ggX9_woman_X9_isSkin : GoodIn wsX9_woman wsX9_isSkin := goodIn_r _ [8, 9, 10, 11, 7, 12, 63, 64, 65, 66, 67, 68, 69, 70, 71, 72, 73, 74, 75, 76, 77, 78, 79, 80, 81, 82, 83, 84, 85, 86, 87, 88, 89, 90, 91, 92, 93, 94, 95] (by decide +kernel) (by decide +kernel)
set_option maxRecDepth 20000 in
theorem gX9_woman_X9_isSkin : GoodIn wsX9_woman (wsV RX9 193 RX9 yX9_isSkin wsX9_isSkin) := goodIn_app (goodIn_of _ (by decide +kernel)) ggX9_woman_X9_isSkin
set_option maxRecDepth 20000 in
theorem ggX9_woman_X9_in : GoodIn wsX9_woman wsX9_in := goodIn_r _ [12] (by decide +kernel) (by decide +kernel)
set_option maxRecDepth 20000 in
theorem gX9_woman_X9_in : GoodIn wsX9_woman (va_wsS RX9 101 yX9_in wsX9_in) := goodIn_app (goodIn_of _ (by decide +kernel)) ggX9_woman_X9_in
set_option maxRecDepth 20000 in
theorem ggX9_woman_X9_goAll : GoodIn wsX9_woman wsX9_goAll := goodIn_r _ [16, 17, 2, 3, 18, 19, 20, 21, 22, 7, 23, 24, 9, 25, 26, 27, 28, 29, 30, 31, 32, 33, 34, 35, 36, 37, 38, 39, 40, 41, 42, 43, 44, 45, 46, 47, 48, 49, 50, 51, 52, 1, 53, 54, 55, 56, 57, 10, 11, 12, 63, 64, 65, 66, 67, 68, 69, 70, 71, 72, 73, 74, 75, 76, 77, 78, 79, 80, 81, 82, 83, 84, 85, 86, 87, 88, 89, 90, 91, 92, 93, 94, 95] (by decide +kernel) (by decide +kernel)
set_option maxRecDepth 20000 in
theorem gX9_woman_X9_goAll : GoodIn wsX9_woman (wsV RX9 190 RX9 yX9_goAll wsX9_goAll) := goodIn_app (goodIn_of _ (by decide +kernel)) ggX9_woman_X9_goAll
set_option maxRecDepth 20000 in
theorem ggX9_woman_X9_goesOn : GoodIn wsX9_woman wsX9_goesOn := goodIn_r _ [61, 3, 62, 63, 64, 65, 66, 67, 68, 69, 70, 71, 72, 73, 74, 75, 76, 77, 78, 79, 80, 81, 82, 83, 84, 85, 86, 87, 88, 89, 90, 91, 92, 93, 94, 95] (by decide +kernel) (by decide +kernel)
set_option maxRecDepth 20000 in
theorem gX9_woman_X9_goesOn : GoodIn wsX9_woman (wsV RX9 205 RX9 yX9_goesOn wsX9_goesOn) := goodIn_app (goodIn_of _ (by decide +kernel)) ggX9_woman_X9_goesOn
theorem dX9_woman_0 : decode cX9_woman 0 = .ok (.aload_n 0, 1) := by decide +kernel
theorem dX9_woman_1 : decode cX9_woman 1 = .ok (.iload_n 1, 1) := by decide +kernel
theorem dX9_woman_2 : decode cX9_woman 2 = .ok (.invokevirtual 193, 3) := by decide +kernel
theorem dX9_woman_5 : decode cX9_woman 5 = .ok (.ifCond .eq 15, 3) := by decide +kernel
theorem dX9_woman_8 : decode cX9_woman 8 = .ok (.iload_n 2, 1) := by decide +kernel
theorem dX9_woman_9 : decode cX9_woman 9 = .ok (.i2l, 1) := by decide +kernel
theorem dX9_woman_10 : decode cX9_woman 10 = .ok (.lconst 0, 1) := by decide +kernel
theorem dX9_woman_11 : decode cX9_woman 11 = .ok (.ldc2_w 122, 3) := by decide +kernel
theorem dX9_woman_14 : decode cX9_woman 14 = .ok (.invokestatic 101, 3) := by decide +kernel
theorem dX9_woman_17 : decode cX9_woman 17 = .ok (.ifCond .ne 5, 3) := by decide +kernel
theorem dX9_woman_20 : decode cX9_woman 20 = .ok (.iconst (-1), 1) := by decide +kernel
theorem dX9_woman_21 : decode cX9_woman 21 = .ok (.ireturn, 1) := by decide +kernel
theorem dX9_woman_22 : decode cX9_woman 22 = .ok (.aload_n 0, 1) := by decide +kernel
theorem dX9_woman_23 : decode cX9_woman 23 = .ok (.invokevirtual 190, 3) := by decide +kernel
theorem dX9_woman_26 : decode cX9_woman 26 = .ok (.iload_n 2, 1) := by decide +kernel
theorem dX9_woman_27 : decode cX9_woman 27 = .ok (.ifCond .ne 12, 3) := by decide +kernel
theorem dX9_woman_30 : decode cX9_woman 30 = .ok (.aload_n 0, 1) := by decide +kernel
theorem dX9_woman_31 : decode cX9_woman 31 = .ok (.getfield 73, 3) := by decide +kernel
theorem dX9_woman_34 : decode cX9_woman 34 = .ok (.iload_n 1, 1) := by decide +kernel
theorem dX9_woman_35 : decode cX9_woman 35 = .ok (.iaload, 1) := by decide +kernel
theorem dX9_woman_36 : decode cX9_woman 36 = .ok (.goto 22, 3) := by decide +kernel
theorem dX9_woman_39 : decode cX9_woman 39 = .ok (.iload_n 2, 1) := by decide +kernel
theorem dX9_woman_40 : decode cX9_woman 40 = .ok (.iconst 1, 1) := by decide +kernel
theorem dX9_woman_41 : decode cX9_woman 41 = .ok (.if_icmp .ne 12, 3) := by decide +kernel
theorem dX9_woman_44 : decode cX9_woman 44 = .ok (.aload_n 0, 1) := by decide +kernel
theorem dX9_woman_45 : decode cX9_woman 45 = .ok (.getfield 76, 3) := by decide +kernel
theorem dX9_woman_48 : decode cX9_woman 48 = .ok (.iload_n 1, 1) := by decide +kernel
theorem dX9_woman_49 : decode cX9_woman 49 = .ok (.iaload, 1) := by decide +kernel
theorem dX9_woman_50 : decode cX9_woman 50 = .ok (.goto 8, 3) := by decide +kernel
theorem dX9_woman_53 : decode cX9_woman 53 = .ok (.aload_n 0, 1) := by decide +kernel
theorem dX9_woman_54 : decode cX9_woman 54 = .ok (.iload_n 1, 1) := by decide +kernel
theorem dX9_woman_55 : decode cX9_woman 55 = .ok (.invokevirtual 205, 3) := by decide +kernel
theorem dX9_woman_58 : decode cX9_woman 58 = .ok (.ireturn, 1) := by decide +kernel
set_option maxRecDepth 20000 in
theorem ggX9_fits_X9_isSkin : GoodIn wsX9_fits wsX9_isSkin := goodIn_r _ [6, 1, 7, 8, 5, 9, 26, 27, 28, 29, 30, 31, 32, 33, 34, 35, 36, 37, 38, 39, 40, 41, 42, 43, 44, 45, 46, 47, 48, 49, 50, 51, 52, 53, 54, 55, 56, 57, 58] (by decide +kernel) (by decide +kernel)
set_option maxRecDepth 20000 in
theorem gX9_fits_X9_isSkin : GoodIn wsX9_fits (wsV RX9 193 RX9 yX9_isSkin wsX9_isSkin) := goodIn_app (goodIn_of _ (by decide +kernel)) ggX9_fits_X9_isSkin
set_option maxRecDepth 20000 in
theorem ggX9_fits_X9_isDay : GoodIn wsX9_fits wsX9_isDay := goodIn_r _ [12, 13, 7, 8, 5, 9] (by decide +kernel) (by decide +kernel)
set_option maxRecDepth 20000 in
theorem gX9_fits_X9_isDay : GoodIn wsX9_fits (va_wsS RX9 198 yX9_isDay wsX9_isDay) := goodIn_app (goodIn_of _ (by decide +kernel)) ggX9_fits_X9_isDay
set_option maxRecDepth 20000 in
theorem ggX9_fits_X9_doesFit : GoodIn wsX9_fits wsX9_doesFit := goodIn_r _ [17, 18, 19, 20, 21, 22, 23, 5, 24, 25, 7, 8, 9, 26, 27, 28, 29, 30, 31, 32, 33, 34, 35, 36, 37, 38, 39, 40, 41, 42, 43, 44, 45, 46, 47, 48, 49, 50, 51, 52, 53, 54, 55, 56, 57, 58] (by decide +kernel) (by decide +kernel)
set_option maxRecDepth 20000 in
theorem gX9_fits_X9_doesFit : GoodIn wsX9_fits (wsV RX9 183 RX9 yX9_doesFit wsX9_doesFit) := goodIn_app (goodIn_of _ (by decide +kernel)) ggX9_fits_X9_doesFit
theorem dX9_fits_0 : decode cX9_fits 0 = .ok (.aload_n 0, 1) := by decide +kernel
theorem dX9_fits_1 : decode cX9_fits 1 = .ok (.iload_n 1, 1) := by decide +kernel
theorem dX9_fits_2 : decode cX9_fits 2 = .ok (.invokevirtual 193, 3) := by decide +kernel
theorem dX9_fits_5 : decode cX9_fits 5 = .ok (.ifCond .eq 10, 3) := by decide +kernel
theorem dX9_fits_8 : decode cX9_fits 8 = .ok (.iload_n 2, 1) := by decide +kernel
theorem dX9_fits_9 : decode cX9_fits 9 = .ok (.invokestatic 198, 3) := by decide +kernel
theorem dX9_fits_12 : decode cX9_fits 12 = .ok (.ifCond .ne 5, 3) := by decide +kernel
theorem dX9_fits_15 : decode cX9_fits 15 = .ok (.iconst (-1), 1) := by decide +kernel
theorem dX9_fits_16 : decode cX9_fits 16 = .ok (.ireturn, 1) := by decide +kernel
theorem dX9_fits_17 : decode cX9_fits 17 = .ok (.iconst 0, 1) := by decide +kernel
theorem dX9_fits_18 : decode cX9_fits 18 = .ok (.istore_n 3, 1) := by decide +kernel
theorem dX9_fits_19 : decode cX9_fits 19 = .ok (.iconst 0, 1) := by decide +kernel
theorem dX9_fits_20 : decode cX9_fits 20 = .ok (.istore 4, 2) := by decide +kernel
theorem dX9_fits_22 : decode cX9_fits 22 = .ok (.iload 4, 2) := by decide +kernel
theorem dX9_fits_24 : decode cX9_fits 24 = .ok (.aload_n 0, 1) := by decide +kernel
theorem dX9_fits_25 : decode cX9_fits 25 = .ok (.getfield 22, 3) := by decide +kernel
theorem dX9_fits_28 : decode cX9_fits 28 = .ok (.iconst 0, 1) := by decide +kernel
theorem dX9_fits_29 : decode cX9_fits 29 = .ok (.iaload, 1) := by decide +kernel
theorem dX9_fits_30 : decode cX9_fits 30 = .ok (.if_icmp .ge 31, 3) := by decide +kernel
theorem dX9_fits_33 : decode cX9_fits 33 = .ok (.iload_n 3, 1) := by decide +kernel
theorem dX9_fits_34 : decode cX9_fits 34 = .ok (.aload_n 0, 1) := by decide +kernel
theorem dX9_fits_35 : decode cX9_fits 35 = .ok (.iload_n 1, 1) := by decide +kernel
theorem dX9_fits_36 : decode cX9_fits 36 = .ok (.iload 4, 2) := by decide +kernel
theorem dX9_fits_38 : decode cX9_fits 38 = .ok (.iload_n 2, 1) := by decide +kernel
theorem dX9_fits_39 : decode cX9_fits 39 = .ok (.invokevirtual 183, 3) := by decide +kernel
theorem dX9_fits_42 : decode cX9_fits 42 = .ok (.ifCond .eq 10, 3) := by decide +kernel
theorem dX9_fits_45 : decode cX9_fits 45 = .ok (.iconst 1, 1) := by decide +kernel
theorem dX9_fits_46 : decode cX9_fits 46 = .ok (.iload 4, 2) := by decide +kernel
theorem dX9_fits_48 : decode cX9_fits 48 = .ok (.ishl, 1) := by decide +kernel
theorem dX9_fits_49 : decode cX9_fits 49 = .ok (.goto 4, 3) := by decide +kernel
theorem dX9_fits_52 : decode cX9_fits 52 = .ok (.iconst 0, 1) := by decide +kernel
theorem dX9_fits_53 : decode cX9_fits 53 = .ok (.ior, 1) := by decide +kernel
theorem dX9_fits_54 : decode cX9_fits 54 = .ok (.istore_n 3, 1) := by decide +kernel
theorem dX9_fits_55 : decode cX9_fits 55 = .ok (.iinc 4 1, 3) := by decide +kernel
theorem dX9_fits_58 : decode cX9_fits 58 = .ok (.goto (-36), 3) := by decide +kernel
theorem dX9_fits_61 : decode cX9_fits 61 = .ok (.iload_n 3, 1) := by decide +kernel
theorem dX9_fits_62 : decode cX9_fits 62 = .ok (.ireturn, 1) := by decide +kernel
set_option maxRecDepth 20000 in
theorem ggX9_goneBy_X9_goesOn : GoodIn wsX9_goneBy wsX9_goesOn := goodIn_r _ [6, 7, 8, 12, 13, 14, 15, 16, 17, 18, 19, 20, 21, 22, 23, 24, 25, 26, 27, 28, 29, 30, 31, 32, 33, 34, 35, 36, 37, 38, 39, 40, 41, 42, 43, 44] (by decide +kernel) (by decide +kernel)
set_option maxRecDepth 20000 in
theorem gX9_goneBy_X9_goesOn : GoodIn wsX9_goneBy (wsV RX9 205 RX9 yX9_goesOn wsX9_goesOn) := goodIn_app (goodIn_of _ (by decide +kernel)) ggX9_goneBy_X9_goesOn
set_option maxRecDepth 20000 in
theorem ggX9_goneBy_X9_in : GoodIn wsX9_goneBy wsX9_in := goodIn_r _ [11] (by decide +kernel) (by decide +kernel)
set_option maxRecDepth 20000 in
theorem gX9_goneBy_X9_in : GoodIn wsX9_goneBy (va_wsS RX9 101 yX9_in wsX9_in) := goodIn_app (goodIn_of _ (by decide +kernel)) ggX9_goneBy_X9_in
theorem dX9_goneBy_0 : decode cX9_goneBy 0 = .ok (.iconst 0, 1) := by decide +kernel
theorem dX9_goneBy_1 : decode cX9_goneBy 1 = .ok (.istore_n 2, 1) := by decide +kernel
theorem dX9_goneBy_2 : decode cX9_goneBy 2 = .ok (.iconst 0, 1) := by decide +kernel
theorem dX9_goneBy_3 : decode cX9_goneBy 3 = .ok (.istore_n 3, 1) := by decide +kernel
theorem dX9_goneBy_4 : decode cX9_goneBy 4 = .ok (.iload_n 3, 1) := by decide +kernel
theorem dX9_goneBy_5 : decode cX9_goneBy 5 = .ok (.aload_n 0, 1) := by decide +kernel
theorem dX9_goneBy_6 : decode cX9_goneBy 6 = .ok (.getfield 22, 3) := by decide +kernel
theorem dX9_goneBy_9 : decode cX9_goneBy 9 = .ok (.iconst 0, 1) := by decide +kernel
theorem dX9_goneBy_10 : decode cX9_goneBy 10 = .ok (.iaload, 1) := by decide +kernel
theorem dX9_goneBy_11 : decode cX9_goneBy 11 = .ok (.if_icmp .ge 32, 3) := by decide +kernel
theorem dX9_goneBy_14 : decode cX9_goneBy 14 = .ok (.iload_n 2, 1) := by decide +kernel
theorem dX9_goneBy_15 : decode cX9_goneBy 15 = .ok (.aload_n 0, 1) := by decide +kernel
theorem dX9_goneBy_16 : decode cX9_goneBy 16 = .ok (.iload_n 3, 1) := by decide +kernel
theorem dX9_goneBy_17 : decode cX9_goneBy 17 = .ok (.invokevirtual 205, 3) := by decide +kernel
theorem dX9_goneBy_20 : decode cX9_goneBy 20 = .ok (.i2l, 1) := by decide +kernel
theorem dX9_goneBy_21 : decode cX9_goneBy 21 = .ok (.lconst 1, 1) := by decide +kernel
theorem dX9_goneBy_22 : decode cX9_goneBy 22 = .ok (.iload_n 1, 1) := by decide +kernel
theorem dX9_goneBy_23 : decode cX9_goneBy 23 = .ok (.i2l, 1) := by decide +kernel
theorem dX9_goneBy_24 : decode cX9_goneBy 24 = .ok (.invokestatic 101, 3) := by decide +kernel
theorem dX9_goneBy_27 : decode cX9_goneBy 27 = .ok (.ifCond .eq 7, 3) := by decide +kernel
theorem dX9_goneBy_30 : decode cX9_goneBy 30 = .ok (.iconst 1, 1) := by decide +kernel
theorem dX9_goneBy_31 : decode cX9_goneBy 31 = .ok (.goto 4, 3) := by decide +kernel
theorem dX9_goneBy_34 : decode cX9_goneBy 34 = .ok (.iconst 0, 1) := by decide +kernel
theorem dX9_goneBy_35 : decode cX9_goneBy 35 = .ok (.iadd, 1) := by decide +kernel
theorem dX9_goneBy_36 : decode cX9_goneBy 36 = .ok (.istore_n 2, 1) := by decide +kernel
theorem dX9_goneBy_37 : decode cX9_goneBy 37 = .ok (.iinc 3 1, 3) := by decide +kernel
theorem dX9_goneBy_40 : decode cX9_goneBy 40 = .ok (.goto (-36), 3) := by decide +kernel
theorem dX9_goneBy_43 : decode cX9_goneBy 43 = .ok (.iload_n 2, 1) := by decide +kernel
theorem dX9_goneBy_44 : decode cX9_goneBy 44 = .ok (.ireturn, 1) := by decide +kernel
set_option maxRecDepth 20000 in
theorem ggX9_gone_X9_in : GoodIn wsX9_gone wsX9_in := goodIn_r _ [5] (by decide +kernel) (by decide +kernel)
set_option maxRecDepth 20000 in
theorem gX9_gone_X9_in : GoodIn wsX9_gone (va_wsS RX9 101 yX9_in wsX9_in) := goodIn_app (goodIn_of _ (by decide +kernel)) ggX9_gone_X9_in
set_option maxRecDepth 20000 in
theorem ggX9_gone_X9_goAll : GoodIn wsX9_gone wsX9_goAll := goodIn_r _ [9, 10, 11, 12, 13, 14, 15, 16, 17, 4, 18, 19, 20, 21, 22, 23, 24, 25, 26, 27, 28, 29, 30, 31, 32, 33, 34, 35, 36, 37, 38, 39, 40, 41, 42, 43, 44, 45, 46, 47, 48, 49, 50, 51, 52, 53, 54, 2, 3, 5, 64, 65, 66, 67, 68, 69, 70, 71, 72, 73, 74, 75, 76, 77, 78, 79, 80, 81, 82, 83, 84, 85, 86, 87, 88, 89, 90, 91, 92, 93, 94, 95, 96] (by decide +kernel) (by decide +kernel)
set_option maxRecDepth 20000 in
theorem gX9_gone_X9_goAll : GoodIn wsX9_gone (wsV RX9 190 RX9 yX9_goAll wsX9_goAll) := goodIn_app (goodIn_of _ (by decide +kernel)) ggX9_gone_X9_goAll
set_option maxRecDepth 20000 in
theorem ggX9_gone_X9_goneBy : GoodIn wsX9_gone wsX9_goneBy := goodIn_r _ [58, 20, 59, 60, 61, 4, 62, 12, 63, 2, 3, 5, 64, 65, 66, 67, 68, 69, 70, 71, 72, 73, 74, 75, 76, 77, 78, 79, 80, 81, 82, 83, 84, 85, 86, 87, 88, 89, 90, 91, 92, 93, 94, 95, 96] (by decide +kernel) (by decide +kernel)
set_option maxRecDepth 20000 in
theorem gX9_gone_X9_goneBy : GoodIn wsX9_gone (wsV RX9 210 RX9 yX9_goneBy wsX9_goneBy) := goodIn_app (goodIn_of _ (by decide +kernel)) ggX9_gone_X9_goneBy
theorem dX9_gone_0 : decode cX9_gone 0 = .ok (.iload_n 1, 1) := by decide +kernel
theorem dX9_gone_1 : decode cX9_gone 1 = .ok (.i2l, 1) := by decide +kernel
theorem dX9_gone_2 : decode cX9_gone 2 = .ok (.lconst 1, 1) := by decide +kernel
theorem dX9_gone_3 : decode cX9_gone 3 = .ok (.ldc2_w 208, 3) := by decide +kernel
theorem dX9_gone_6 : decode cX9_gone 6 = .ok (.invokestatic 101, 3) := by decide +kernel
theorem dX9_gone_9 : decode cX9_gone 9 = .ok (.ifCond .ne 5, 3) := by decide +kernel
theorem dX9_gone_12 : decode cX9_gone 12 = .ok (.iconst (-1), 1) := by decide +kernel
theorem dX9_gone_13 : decode cX9_gone 13 = .ok (.ireturn, 1) := by decide +kernel
theorem dX9_gone_14 : decode cX9_gone 14 = .ok (.aload_n 0, 1) := by decide +kernel
theorem dX9_gone_15 : decode cX9_gone 15 = .ok (.invokevirtual 190, 3) := by decide +kernel
theorem dX9_gone_18 : decode cX9_gone 18 = .ok (.aload_n 0, 1) := by decide +kernel
theorem dX9_gone_19 : decode cX9_gone 19 = .ok (.iload_n 1, 1) := by decide +kernel
theorem dX9_gone_20 : decode cX9_gone 20 = .ok (.invokevirtual 210, 3) := by decide +kernel
theorem dX9_gone_23 : decode cX9_gone 23 = .ok (.ireturn, 1) := by decide +kernel
set_option maxRecDepth 20000 in
theorem ggX9_best_X9_isSkin : GoodIn wsX9_best wsX9_isSkin := goodIn_r _ [8, 9, 10, 11, 7, 12, 58, 59, 60, 61, 62, 63, 64, 65, 66, 67, 68, 69, 70, 71, 72, 73, 74, 75, 76, 77, 78, 79, 80, 81, 82, 83, 84, 85, 86, 87, 88, 89, 90] (by decide +kernel) (by decide +kernel)
set_option maxRecDepth 20000 in
theorem gX9_best_X9_isSkin : GoodIn wsX9_best (wsV RX9 193 RX9 yX9_isSkin wsX9_isSkin) := goodIn_app (goodIn_of _ (by decide +kernel)) ggX9_best_X9_isSkin
set_option maxRecDepth 20000 in
theorem ggX9_best_X9_in : GoodIn wsX9_best wsX9_in := goodIn_r _ [12] (by decide +kernel) (by decide +kernel)
set_option maxRecDepth 20000 in
theorem gX9_best_X9_in : GoodIn wsX9_best (va_wsS RX9 101 yX9_in wsX9_in) := goodIn_app (goodIn_of _ (by decide +kernel)) ggX9_best_X9_in
set_option maxRecDepth 20000 in
theorem ggX9_best_X9_goAll : GoodIn wsX9_best wsX9_goAll := goodIn_r _ [16, 17, 18, 3, 19, 20, 21, 22, 23, 7, 24, 25, 9, 1, 26, 27, 28, 29, 30, 31, 32, 33, 34, 35, 36, 2, 37, 38, 39, 40, 41, 42, 43, 44, 45, 46, 47, 48, 49, 50, 51, 52, 53, 54, 55, 56, 57, 10, 11, 12, 58, 59, 60, 61, 62, 63, 64, 65, 66, 67, 68, 69, 70, 71, 72, 73, 74, 75, 76, 77, 78, 79, 80, 81, 82, 83, 84, 85, 86, 87, 88, 89, 90] (by decide +kernel) (by decide +kernel)
set_option maxRecDepth 20000 in
theorem gX9_best_X9_goAll : GoodIn wsX9_best (wsV RX9 190 RX9 yX9_goAll wsX9_goAll) := goodIn_app (goodIn_of _ (by decide +kernel)) ggX9_best_X9_goAll
theorem dX9_best_0 : decode cX9_best 0 = .ok (.aload_n 0, 1) := by decide +kernel
theorem dX9_best_1 : decode cX9_best 1 = .ok (.iload_n 1, 1) := by decide +kernel
theorem dX9_best_2 : decode cX9_best 2 = .ok (.invokevirtual 193, 3) := by decide +kernel
theorem dX9_best_5 : decode cX9_best 5 = .ok (.ifCond .eq 13, 3) := by decide +kernel
theorem dX9_best_8 : decode cX9_best 8 = .ok (.iload_n 2, 1) := by decide +kernel
theorem dX9_best_9 : decode cX9_best 9 = .ok (.i2l, 1) := by decide +kernel
theorem dX9_best_10 : decode cX9_best 10 = .ok (.lconst 0, 1) := by decide +kernel
theorem dX9_best_11 : decode cX9_best 11 = .ok (.lconst 1, 1) := by decide +kernel
theorem dX9_best_12 : decode cX9_best 12 = .ok (.invokestatic 101, 3) := by decide +kernel
theorem dX9_best_15 : decode cX9_best 15 = .ok (.ifCond .ne 5, 3) := by decide +kernel
theorem dX9_best_18 : decode cX9_best 18 = .ok (.iconst (-1), 1) := by decide +kernel
theorem dX9_best_19 : decode cX9_best 19 = .ok (.ireturn, 1) := by decide +kernel
theorem dX9_best_20 : decode cX9_best 20 = .ok (.aload_n 0, 1) := by decide +kernel
theorem dX9_best_21 : decode cX9_best 21 = .ok (.getfield 37, 3) := by decide +kernel
theorem dX9_best_24 : decode cX9_best 24 = .ok (.iload_n 1, 1) := by decide +kernel
theorem dX9_best_25 : decode cX9_best 25 = .ok (.iaload, 1) := by decide +kernel
theorem dX9_best_26 : decode cX9_best 26 = .ok (.istore_n 3, 1) := by decide +kernel
theorem dX9_best_27 : decode cX9_best 27 = .ok (.bipush (-4), 2) := by decide +kernel
theorem dX9_best_29 : decode cX9_best 29 = .ok (.istore 4, 2) := by decide +kernel
theorem dX9_best_31 : decode cX9_best 31 = .ok (.iconst 0, 1) := by decide +kernel
theorem dX9_best_32 : decode cX9_best 32 = .ok (.istore 5, 2) := by decide +kernel
theorem dX9_best_34 : decode cX9_best 34 = .ok (.iconst 0, 1) := by decide +kernel
theorem dX9_best_35 : decode cX9_best 35 = .ok (.istore 6, 2) := by decide +kernel
theorem dX9_best_37 : decode cX9_best 37 = .ok (.iload 6, 2) := by decide +kernel
theorem dX9_best_39 : decode cX9_best 39 = .ok (.aload_n 0, 1) := by decide +kernel
theorem dX9_best_40 : decode cX9_best 40 = .ok (.getfield 13, 3) := by decide +kernel
theorem dX9_best_43 : decode cX9_best 43 = .ok (.iconst 0, 1) := by decide +kernel
theorem dX9_best_44 : decode cX9_best 44 = .ok (.iaload, 1) := by decide +kernel
theorem dX9_best_45 : decode cX9_best 45 = .ok (.if_icmp .ge 76, 3) := by decide +kernel
theorem dX9_best_48 : decode cX9_best 48 = .ok (.aload_n 0, 1) := by decide +kernel
theorem dX9_best_49 : decode cX9_best 49 = .ok (.getfield 37, 3) := by decide +kernel
theorem dX9_best_52 : decode cX9_best 52 = .ok (.iload_n 1, 1) := by decide +kernel
theorem dX9_best_53 : decode cX9_best 53 = .ok (.iload 6, 2) := by decide +kernel
theorem dX9_best_55 : decode cX9_best 55 = .ok (.iastore, 1) := by decide +kernel
theorem dX9_best_56 : decode cX9_best 56 = .ok (.aload_n 0, 1) := by decide +kernel
theorem dX9_best_57 : decode cX9_best 57 = .ok (.invokevirtual 190, 3) := by decide +kernel
theorem dX9_best_60 : decode cX9_best 60 = .ok (.aload_n 0, 1) := by decide +kernel
theorem dX9_best_61 : decode cX9_best 61 = .ok (.getfield 76, 3) := by decide +kernel
theorem dX9_best_64 : decode cX9_best 64 = .ok (.iload_n 1, 1) := by decide +kernel
theorem dX9_best_65 : decode cX9_best 65 = .ok (.iaload, 1) := by decide +kernel
theorem dX9_best_66 : decode cX9_best 66 = .ok (.ifCond .ge 9, 3) := by decide +kernel
theorem dX9_best_69 : decode cX9_best 69 = .ok (.sipush 1000, 3) := by decide +kernel
theorem dX9_best_72 : decode cX9_best 72 = .ok (.goto 9, 3) := by decide +kernel
theorem dX9_best_75 : decode cX9_best 75 = .ok (.aload_n 0, 1) := by decide +kernel
theorem dX9_best_76 : decode cX9_best 76 = .ok (.getfield 76, 3) := by decide +kernel
theorem dX9_best_79 : decode cX9_best 79 = .ok (.iload_n 1, 1) := by decide +kernel
theorem dX9_best_80 : decode cX9_best 80 = .ok (.iaload, 1) := by decide +kernel
theorem dX9_best_81 : decode cX9_best 81 = .ok (.istore 7, 2) := by decide +kernel
theorem dX9_best_83 : decode cX9_best 83 = .ok (.iload 7, 2) := by decide +kernel
theorem dX9_best_85 : decode cX9_best 85 = .ok (.iload 5, 2) := by decide +kernel
theorem dX9_best_87 : decode cX9_best 87 = .ok (.if_icmp .le 8, 3) := by decide +kernel
theorem dX9_best_90 : decode cX9_best 90 = .ok (.iload 6, 2) := by decide +kernel
theorem dX9_best_92 : decode cX9_best 92 = .ok (.goto 5, 3) := by decide +kernel
theorem dX9_best_95 : decode cX9_best 95 = .ok (.iload 4, 2) := by decide +kernel
theorem dX9_best_97 : decode cX9_best 97 = .ok (.istore 4, 2) := by decide +kernel
theorem dX9_best_99 : decode cX9_best 99 = .ok (.iload 7, 2) := by decide +kernel
theorem dX9_best_101 : decode cX9_best 101 = .ok (.iload 5, 2) := by decide +kernel
theorem dX9_best_103 : decode cX9_best 103 = .ok (.if_icmp .le 8, 3) := by decide +kernel
theorem dX9_best_106 : decode cX9_best 106 = .ok (.iload 7, 2) := by decide +kernel
theorem dX9_best_108 : decode cX9_best 108 = .ok (.goto 5, 3) := by decide +kernel
theorem dX9_best_111 : decode cX9_best 111 = .ok (.iload 5, 2) := by decide +kernel
theorem dX9_best_113 : decode cX9_best 113 = .ok (.istore 5, 2) := by decide +kernel
theorem dX9_best_115 : decode cX9_best 115 = .ok (.iinc 6 1, 3) := by decide +kernel
theorem dX9_best_118 : decode cX9_best 118 = .ok (.goto (-81), 3) := by decide +kernel
theorem dX9_best_121 : decode cX9_best 121 = .ok (.aload_n 0, 1) := by decide +kernel
theorem dX9_best_122 : decode cX9_best 122 = .ok (.getfield 37, 3) := by decide +kernel
theorem dX9_best_125 : decode cX9_best 125 = .ok (.iload_n 1, 1) := by decide +kernel
theorem dX9_best_126 : decode cX9_best 126 = .ok (.iload_n 3, 1) := by decide +kernel
theorem dX9_best_127 : decode cX9_best 127 = .ok (.iastore, 1) := by decide +kernel
theorem dX9_best_128 : decode cX9_best 128 = .ok (.iload_n 2, 1) := by decide +kernel
theorem dX9_best_129 : decode cX9_best 129 = .ok (.ifCond .ne 8, 3) := by decide +kernel
theorem dX9_best_132 : decode cX9_best 132 = .ok (.iload 4, 2) := by decide +kernel
theorem dX9_best_134 : decode cX9_best 134 = .ok (.goto 18, 3) := by decide +kernel
theorem dX9_best_137 : decode cX9_best 137 = .ok (.iload 5, 2) := by decide +kernel
theorem dX9_best_139 : decode cX9_best 139 = .ok (.sipush 1000, 3) := by decide +kernel
theorem dX9_best_142 : decode cX9_best 142 = .ok (.if_icmp .ne 8, 3) := by decide +kernel
theorem dX9_best_145 : decode cX9_best 145 = .ok (.bipush (-4), 2) := by decide +kernel
theorem dX9_best_147 : decode cX9_best 147 = .ok (.goto 5, 3) := by decide +kernel
theorem dX9_best_150 : decode cX9_best 150 = .ok (.iload 5, 2) := by decide +kernel
theorem dX9_best_152 : decode cX9_best 152 = .ok (.ireturn, 1) := by decide +kernel
theorem dX9_note_0 : decode cX9_note 0 = .ok (.aload_n 0, 1) := by decide +kernel
theorem dX9_note_1 : decode cX9_note 1 = .ok (.getfield 152, 3) := by decide +kernel
theorem dX9_note_4 : decode cX9_note 4 = .ok (.bipush 8, 2) := by decide +kernel
theorem dX9_note_6 : decode cX9_note 6 = .ok (.if_icmp .ne 41, 3) := by decide +kernel
theorem dX9_note_9 : decode cX9_note 9 = .ok (.iconst 0, 1) := by decide +kernel
theorem dX9_note_10 : decode cX9_note 10 = .ok (.istore_n 3, 1) := by decide +kernel
theorem dX9_note_11 : decode cX9_note 11 = .ok (.iload_n 3, 1) := by decide +kernel
theorem dX9_note_12 : decode cX9_note 12 = .ok (.bipush 14, 2) := by decide +kernel
theorem dX9_note_14 : decode cX9_note 14 = .ok (.if_icmp .ge 23, 3) := by decide +kernel
theorem dX9_note_17 : decode cX9_note 17 = .ok (.aload_n 0, 1) := by decide +kernel
theorem dX9_note_18 : decode cX9_note 18 = .ok (.getfield 52, 3) := by decide +kernel
theorem dX9_note_21 : decode cX9_note 21 = .ok (.iload_n 3, 1) := by decide +kernel
theorem dX9_note_22 : decode cX9_note 22 = .ok (.aload_n 0, 1) := by decide +kernel
theorem dX9_note_23 : decode cX9_note 23 = .ok (.getfield 52, 3) := by decide +kernel
theorem dX9_note_26 : decode cX9_note 26 = .ok (.iload_n 3, 1) := by decide +kernel
theorem dX9_note_27 : decode cX9_note 27 = .ok (.iconst 2, 1) := by decide +kernel
theorem dX9_note_28 : decode cX9_note 28 = .ok (.iadd, 1) := by decide +kernel
theorem dX9_note_29 : decode cX9_note 29 = .ok (.iaload, 1) := by decide +kernel
theorem dX9_note_30 : decode cX9_note 30 = .ok (.iastore, 1) := by decide +kernel
theorem dX9_note_31 : decode cX9_note 31 = .ok (.iinc 3 1, 3) := by decide +kernel
theorem dX9_note_34 : decode cX9_note 34 = .ok (.goto (-23), 3) := by decide +kernel
theorem dX9_note_37 : decode cX9_note 37 = .ok (.aload_n 0, 1) := by decide +kernel
theorem dX9_note_38 : decode cX9_note 38 = .ok (.dup, 1) := by decide +kernel
theorem dX9_note_39 : decode cX9_note 39 = .ok (.getfield 152, 3) := by decide +kernel
theorem dX9_note_42 : decode cX9_note 42 = .ok (.iconst 1, 1) := by decide +kernel
theorem dX9_note_43 : decode cX9_note 43 = .ok (.isub, 1) := by decide +kernel
theorem dX9_note_44 : decode cX9_note 44 = .ok (.putfield 152, 3) := by decide +kernel
theorem dX9_note_47 : decode cX9_note 47 = .ok (.aload_n 0, 1) := by decide +kernel
theorem dX9_note_48 : decode cX9_note 48 = .ok (.getfield 52, 3) := by decide +kernel
theorem dX9_note_51 : decode cX9_note 51 = .ok (.iconst 2, 1) := by decide +kernel
theorem dX9_note_52 : decode cX9_note 52 = .ok (.aload_n 0, 1) := by decide +kernel
theorem dX9_note_53 : decode cX9_note 53 = .ok (.getfield 152, 3) := by decide +kernel
theorem dX9_note_56 : decode cX9_note 56 = .ok (.imul, 1) := by decide +kernel
theorem dX9_note_57 : decode cX9_note 57 = .ok (.iload_n 1, 1) := by decide +kernel
theorem dX9_note_58 : decode cX9_note 58 = .ok (.iastore, 1) := by decide +kernel
theorem dX9_note_59 : decode cX9_note 59 = .ok (.aload_n 0, 1) := by decide +kernel
theorem dX9_note_60 : decode cX9_note 60 = .ok (.getfield 52, 3) := by decide +kernel
theorem dX9_note_63 : decode cX9_note 63 = .ok (.iconst 2, 1) := by decide +kernel
theorem dX9_note_64 : decode cX9_note 64 = .ok (.aload_n 0, 1) := by decide +kernel
theorem dX9_note_65 : decode cX9_note 65 = .ok (.getfield 152, 3) := by decide +kernel
theorem dX9_note_68 : decode cX9_note 68 = .ok (.imul, 1) := by decide +kernel
theorem dX9_note_69 : decode cX9_note 69 = .ok (.iconst 1, 1) := by decide +kernel
theorem dX9_note_70 : decode cX9_note 70 = .ok (.iadd, 1) := by decide +kernel
theorem dX9_note_71 : decode cX9_note 71 = .ok (.iload_n 2, 1) := by decide +kernel
theorem dX9_note_72 : decode cX9_note 72 = .ok (.iastore, 1) := by decide +kernel
theorem dX9_note_73 : decode cX9_note 73 = .ok (.aload_n 0, 1) := by decide +kernel
theorem dX9_note_74 : decode cX9_note 74 = .ok (.dup, 1) := by decide +kernel
theorem dX9_note_75 : decode cX9_note 75 = .ok (.getfield 152, 3) := by decide +kernel
theorem dX9_note_78 : decode cX9_note 78 = .ok (.iconst 1, 1) := by decide +kernel
theorem dX9_note_79 : decode cX9_note 79 = .ok (.iadd, 1) := by decide +kernel
theorem dX9_note_80 : decode cX9_note 80 = .ok (.putfield 152, 3) := by decide +kernel
theorem dX9_note_83 : decode cX9_note 83 = .ok (.return_, 1) := by decide +kernel
set_option maxRecDepth 20000 in
theorem ggX9_hide_X9_isSkin : GoodIn wsX9_hide wsX9_isSkin := goodIn_r _ [6, 7, 8, 9, 5, 10, 22, 23, 24, 25, 26, 27, 28, 29, 30, 31, 32, 33, 34, 35, 36, 37, 38, 39, 40, 41, 42, 43, 44, 45, 46, 47, 48, 49, 50, 51, 52, 53, 54] (by decide +kernel) (by decide +kernel)
set_option maxRecDepth 20000 in
theorem gX9_hide_X9_isSkin : GoodIn wsX9_hide (wsV RX9 193 RX9 yX9_isSkin wsX9_isSkin) := goodIn_app (goodIn_of _ (by decide +kernel)) ggX9_hide_X9_isSkin
set_option maxRecDepth 20000 in
theorem ggX9_hide_X9_isPlace : GoodIn wsX9_hide wsX9_isPlace := goodIn_r _ [14, 15, 8, 9, 5, 10, 22, 23, 24, 25, 26, 27, 28, 29, 30, 31, 32, 33, 34, 35, 36, 37, 38, 39, 40, 41, 42, 43, 44, 45, 46, 47, 48, 49, 50, 51, 52, 53, 54] (by decide +kernel) (by decide +kernel)
set_option maxRecDepth 20000 in
theorem gX9_hide_X9_isPlace : GoodIn wsX9_hide (wsV RX9 158 RX9 yX9_isPlace wsX9_isPlace) := goodIn_app (goodIn_of _ (by decide +kernel)) ggX9_hide_X9_isPlace
set_option maxRecDepth 20000 in
theorem ggX9_hide_X9_note : GoodIn wsX9_hide wsX9_note := goodIn_r _ [19, 20, 21, 22, 23, 24, 25, 26, 27, 28, 29, 30, 31, 32, 33, 34, 35, 36, 37, 38, 39, 40, 41, 42, 43, 44, 45, 46, 47, 48, 49, 50, 51, 52, 53, 54] (by decide +kernel) (by decide +kernel)
set_option maxRecDepth 20000 in
theorem gX9_hide_X9_note : GoodIn wsX9_hide (wsV RX9 213 RX9 yX9_note wsX9_note) := goodIn_app (goodIn_of _ (by decide +kernel)) ggX9_hide_X9_note
theorem dX9_hide_0 : decode cX9_hide 0 = .ok (.aload_n 0, 1) := by decide +kernel
theorem dX9_hide_1 : decode cX9_hide 1 = .ok (.iload_n 1, 1) := by decide +kernel
theorem dX9_hide_2 : decode cX9_hide 2 = .ok (.invokevirtual 193, 3) := by decide +kernel
theorem dX9_hide_5 : decode cX9_hide 5 = .ok (.ifCond .eq 11, 3) := by decide +kernel
theorem dX9_hide_8 : decode cX9_hide 8 = .ok (.aload_n 0, 1) := by decide +kernel
theorem dX9_hide_9 : decode cX9_hide 9 = .ok (.iload_n 2, 1) := by decide +kernel
theorem dX9_hide_10 : decode cX9_hide 10 = .ok (.invokevirtual 158, 3) := by decide +kernel
theorem dX9_hide_13 : decode cX9_hide 13 = .ok (.ifCond .ne 5, 3) := by decide +kernel
theorem dX9_hide_16 : decode cX9_hide 16 = .ok (.iconst (-1), 1) := by decide +kernel
theorem dX9_hide_17 : decode cX9_hide 17 = .ok (.ireturn, 1) := by decide +kernel
theorem dX9_hide_18 : decode cX9_hide 18 = .ok (.aload_n 0, 1) := by decide +kernel
theorem dX9_hide_19 : decode cX9_hide 19 = .ok (.getfield 37, 3) := by decide +kernel
theorem dX9_hide_22 : decode cX9_hide 22 = .ok (.iload_n 1, 1) := by decide +kernel
theorem dX9_hide_23 : decode cX9_hide 23 = .ok (.iaload, 1) := by decide +kernel
theorem dX9_hide_24 : decode cX9_hide 24 = .ok (.istore_n 3, 1) := by decide +kernel
theorem dX9_hide_25 : decode cX9_hide 25 = .ok (.aload_n 0, 1) := by decide +kernel
theorem dX9_hide_26 : decode cX9_hide 26 = .ok (.iload_n 1, 1) := by decide +kernel
theorem dX9_hide_27 : decode cX9_hide 27 = .ok (.iload_n 3, 1) := by decide +kernel
theorem dX9_hide_28 : decode cX9_hide 28 = .ok (.invokevirtual 213, 3) := by decide +kernel
theorem dX9_hide_31 : decode cX9_hide 31 = .ok (.aload_n 0, 1) := by decide +kernel
theorem dX9_hide_32 : decode cX9_hide 32 = .ok (.getfield 37, 3) := by decide +kernel
theorem dX9_hide_35 : decode cX9_hide 35 = .ok (.iload_n 1, 1) := by decide +kernel
theorem dX9_hide_36 : decode cX9_hide 36 = .ok (.iload_n 2, 1) := by decide +kernel
theorem dX9_hide_37 : decode cX9_hide 37 = .ok (.iastore, 1) := by decide +kernel
theorem dX9_hide_38 : decode cX9_hide 38 = .ok (.iload_n 3, 1) := by decide +kernel
theorem dX9_hide_39 : decode cX9_hide 39 = .ok (.ireturn, 1) := by decide +kernel
set_option maxRecDepth 20000 in
theorem ggX9_look_X9_isSkin : GoodIn wsX9_look wsX9_isSkin := goodIn_r _ [6, 7, 8, 9, 5, 10, 33, 34, 35, 36, 37, 38, 39, 40, 41, 42, 43, 44, 45, 46, 47, 48, 49, 50, 51, 52, 53, 54, 55, 56, 57, 58, 59, 60, 61, 62, 63, 64, 65] (by decide +kernel) (by decide +kernel)
set_option maxRecDepth 20000 in
theorem gX9_look_X9_isSkin : GoodIn wsX9_look (wsV RX9 193 RX9 yX9_isSkin wsX9_isSkin) := goodIn_app (goodIn_of _ (by decide +kernel)) ggX9_look_X9_isSkin
set_option maxRecDepth 20000 in
theorem ggX9_look_X9_isPlace : GoodIn wsX9_look wsX9_isPlace := goodIn_r _ [14, 15, 8, 9, 5, 10, 33, 34, 35, 36, 37, 38, 39, 40, 41, 42, 43, 44, 45, 46, 47, 48, 49, 50, 51, 52, 53, 54, 55, 56, 57, 58, 59, 60, 61, 62, 63, 64, 65] (by decide +kernel) (by decide +kernel)
set_option maxRecDepth 20000 in
theorem gX9_look_X9_isPlace : GoodIn wsX9_look (wsV RX9 158 RX9 yX9_isPlace wsX9_isPlace) := goodIn_app (goodIn_of _ (by decide +kernel)) ggX9_look_X9_isPlace
set_option maxRecDepth 20000 in
theorem ggX9_look_X9_isDay : GoodIn wsX9_look wsX9_isDay := goodIn_r _ [18, 19, 8, 9, 5, 10] (by decide +kernel) (by decide +kernel)
set_option maxRecDepth 20000 in
theorem gX9_look_X9_isDay : GoodIn wsX9_look (va_wsS RX9 198 yX9_isDay wsX9_isDay) := goodIn_app (goodIn_of _ (by decide +kernel)) ggX9_look_X9_isDay
set_option maxRecDepth 20000 in
theorem ggX9_look_X9_note : GoodIn wsX9_look wsX9_note := goodIn_r _ [23, 24, 25, 33, 34, 35, 36, 37, 38, 39, 40, 41, 42, 43, 44, 45, 46, 47, 48, 49, 50, 51, 52, 53, 54, 55, 56, 57, 58, 59, 60, 61, 62, 63, 64, 65] (by decide +kernel) (by decide +kernel)
set_option maxRecDepth 20000 in
theorem gX9_look_X9_note : GoodIn wsX9_look (wsV RX9 213 RX9 yX9_note wsX9_note) := goodIn_app (goodIn_of _ (by decide +kernel)) ggX9_look_X9_note
set_option maxRecDepth 20000 in
theorem ggX9_look_X9_addLook : GoodIn wsX9_look wsX9_addLook := goodIn_r _ [29, 30, 1, 31, 32, 33, 34, 35, 36, 37, 38, 39, 40, 41, 42, 43, 44, 45, 46, 47, 48, 49, 50, 51, 52, 53, 54, 55, 56, 57, 58, 59, 60, 61, 62, 63, 64, 65] (by decide +kernel) (by decide +kernel)
set_option maxRecDepth 20000 in
theorem gX9_look_X9_addLook : GoodIn wsX9_look (wsV RX9 95 RX9 yX9_addLook wsX9_addLook) := goodIn_app (goodIn_of _ (by decide +kernel)) ggX9_look_X9_addLook
theorem dX9_look_0 : decode cX9_look 0 = .ok (.aload_n 0, 1) := by decide +kernel
theorem dX9_look_1 : decode cX9_look 1 = .ok (.iload_n 1, 1) := by decide +kernel
theorem dX9_look_2 : decode cX9_look 2 = .ok (.invokevirtual 193, 3) := by decide +kernel
theorem dX9_look_5 : decode cX9_look 5 = .ok (.ifCond .eq 18, 3) := by decide +kernel
theorem dX9_look_8 : decode cX9_look 8 = .ok (.aload_n 0, 1) := by decide +kernel
theorem dX9_look_9 : decode cX9_look 9 = .ok (.iload_n 2, 1) := by decide +kernel
theorem dX9_look_10 : decode cX9_look 10 = .ok (.invokevirtual 158, 3) := by decide +kernel
theorem dX9_look_13 : decode cX9_look 13 = .ok (.ifCond .eq 10, 3) := by decide +kernel
theorem dX9_look_16 : decode cX9_look 16 = .ok (.iload_n 3, 1) := by decide +kernel
theorem dX9_look_17 : decode cX9_look 17 = .ok (.invokestatic 198, 3) := by decide +kernel
theorem dX9_look_20 : decode cX9_look 20 = .ok (.ifCond .ne 5, 3) := by decide +kernel
theorem dX9_look_23 : decode cX9_look 23 = .ok (.iconst (-1), 1) := by decide +kernel
theorem dX9_look_24 : decode cX9_look 24 = .ok (.ireturn, 1) := by decide +kernel
theorem dX9_look_25 : decode cX9_look 25 = .ok (.aload_n 0, 1) := by decide +kernel
theorem dX9_look_26 : decode cX9_look 26 = .ok (.getfield 40, 3) := by decide +kernel
theorem dX9_look_29 : decode cX9_look 29 = .ok (.iconst 0, 1) := by decide +kernel
theorem dX9_look_30 : decode cX9_look 30 = .ok (.iaload, 1) := by decide +kernel
theorem dX9_look_31 : decode cX9_look 31 = .ok (.bipush 9, 2) := by decide +kernel
theorem dX9_look_33 : decode cX9_look 33 = .ok (.if_icmp .ne 6, 3) := by decide +kernel
theorem dX9_look_36 : decode cX9_look 36 = .ok (.bipush (-3), 2) := by decide +kernel
theorem dX9_look_38 : decode cX9_look 38 = .ok (.ireturn, 1) := by decide +kernel
theorem dX9_look_39 : decode cX9_look 39 = .ok (.aload_n 0, 1) := by decide +kernel
theorem dX9_look_40 : decode cX9_look 40 = .ok (.bipush (-4), 2) := by decide +kernel
theorem dX9_look_42 : decode cX9_look 42 = .ok (.iconst 0, 1) := by decide +kernel
theorem dX9_look_43 : decode cX9_look 43 = .ok (.invokevirtual 213, 3) := by decide +kernel
theorem dX9_look_46 : decode cX9_look 46 = .ok (.aload_n 0, 1) := by decide +kernel
theorem dX9_look_47 : decode cX9_look 47 = .ok (.iconst 0, 1) := by decide +kernel
theorem dX9_look_48 : decode cX9_look 48 = .ok (.iload_n 1, 1) := by decide +kernel
theorem dX9_look_49 : decode cX9_look 49 = .ok (.iload_n 2, 1) := by decide +kernel
theorem dX9_look_50 : decode cX9_look 50 = .ok (.iload_n 3, 1) := by decide +kernel
theorem dX9_look_51 : decode cX9_look 51 = .ok (.invokevirtual 95, 3) := by decide +kernel
theorem dX9_look_54 : decode cX9_look 54 = .ok (.aload_n 0, 1) := by decide +kernel
theorem dX9_look_55 : decode cX9_look 55 = .ok (.getfield 40, 3) := by decide +kernel
theorem dX9_look_58 : decode cX9_look 58 = .ok (.iconst 0, 1) := by decide +kernel
theorem dX9_look_59 : decode cX9_look 59 = .ok (.iaload, 1) := by decide +kernel
theorem dX9_look_60 : decode cX9_look 60 = .ok (.ireturn, 1) := by decide +kernel
theorem dX9_undo_0 : decode cX9_undo 0 = .ok (.aload_n 0, 1) := by decide +kernel
theorem dX9_undo_1 : decode cX9_undo 1 = .ok (.getfield 152, 3) := by decide +kernel
theorem dX9_undo_4 : decode cX9_undo 4 = .ok (.ifCond .ne 6, 3) := by decide +kernel
theorem dX9_undo_7 : decode cX9_undo 7 = .ok (.bipush (-2), 2) := by decide +kernel
theorem dX9_undo_9 : decode cX9_undo 9 = .ok (.ireturn, 1) := by decide +kernel
theorem dX9_undo_10 : decode cX9_undo 10 = .ok (.aload_n 0, 1) := by decide +kernel
theorem dX9_undo_11 : decode cX9_undo 11 = .ok (.dup, 1) := by decide +kernel
theorem dX9_undo_12 : decode cX9_undo 12 = .ok (.getfield 152, 3) := by decide +kernel
theorem dX9_undo_15 : decode cX9_undo 15 = .ok (.iconst 1, 1) := by decide +kernel
theorem dX9_undo_16 : decode cX9_undo 16 = .ok (.isub, 1) := by decide +kernel
theorem dX9_undo_17 : decode cX9_undo 17 = .ok (.putfield 152, 3) := by decide +kernel
theorem dX9_undo_20 : decode cX9_undo 20 = .ok (.aload_n 0, 1) := by decide +kernel
theorem dX9_undo_21 : decode cX9_undo 21 = .ok (.getfield 52, 3) := by decide +kernel
theorem dX9_undo_24 : decode cX9_undo 24 = .ok (.iconst 2, 1) := by decide +kernel
theorem dX9_undo_25 : decode cX9_undo 25 = .ok (.aload_n 0, 1) := by decide +kernel
theorem dX9_undo_26 : decode cX9_undo 26 = .ok (.getfield 152, 3) := by decide +kernel
theorem dX9_undo_29 : decode cX9_undo 29 = .ok (.imul, 1) := by decide +kernel
theorem dX9_undo_30 : decode cX9_undo 30 = .ok (.iaload, 1) := by decide +kernel
theorem dX9_undo_31 : decode cX9_undo 31 = .ok (.istore_n 1, 1) := by decide +kernel
theorem dX9_undo_32 : decode cX9_undo 32 = .ok (.iload_n 1, 1) := by decide +kernel
theorem dX9_undo_33 : decode cX9_undo 33 = .ok (.ifCond .ge 16, 3) := by decide +kernel
theorem dX9_undo_36 : decode cX9_undo 36 = .ok (.aload_n 0, 1) := by decide +kernel
theorem dX9_undo_37 : decode cX9_undo 37 = .ok (.getfield 40, 3) := by decide +kernel
theorem dX9_undo_40 : decode cX9_undo 40 = .ok (.iconst 0, 1) := by decide +kernel
theorem dX9_undo_41 : decode cX9_undo 41 = .ok (.dup2, 1) := by decide +kernel
theorem dX9_undo_42 : decode cX9_undo 42 = .ok (.iaload, 1) := by decide +kernel
theorem dX9_undo_43 : decode cX9_undo 43 = .ok (.iconst 1, 1) := by decide +kernel
theorem dX9_undo_44 : decode cX9_undo 44 = .ok (.isub, 1) := by decide +kernel
theorem dX9_undo_45 : decode cX9_undo 45 = .ok (.iastore, 1) := by decide +kernel
theorem dX9_undo_46 : decode cX9_undo 46 = .ok (.goto 22, 3) := by decide +kernel
theorem dX9_undo_49 : decode cX9_undo 49 = .ok (.aload_n 0, 1) := by decide +kernel
theorem dX9_undo_50 : decode cX9_undo 50 = .ok (.getfield 37, 3) := by decide +kernel
theorem dX9_undo_53 : decode cX9_undo 53 = .ok (.iload_n 1, 1) := by decide +kernel
theorem dX9_undo_54 : decode cX9_undo 54 = .ok (.aload_n 0, 1) := by decide +kernel
theorem dX9_undo_55 : decode cX9_undo 55 = .ok (.getfield 52, 3) := by decide +kernel
theorem dX9_undo_58 : decode cX9_undo 58 = .ok (.iconst 2, 1) := by decide +kernel
theorem dX9_undo_59 : decode cX9_undo 59 = .ok (.aload_n 0, 1) := by decide +kernel
theorem dX9_undo_60 : decode cX9_undo 60 = .ok (.getfield 152, 3) := by decide +kernel
theorem dX9_undo_63 : decode cX9_undo 63 = .ok (.imul, 1) := by decide +kernel
theorem dX9_undo_64 : decode cX9_undo 64 = .ok (.iconst 1, 1) := by decide +kernel
theorem dX9_undo_65 : decode cX9_undo 65 = .ok (.iadd, 1) := by decide +kernel
theorem dX9_undo_66 : decode cX9_undo 66 = .ok (.iaload, 1) := by decide +kernel
theorem dX9_undo_67 : decode cX9_undo 67 = .ok (.iastore, 1) := by decide +kernel
theorem dX9_undo_68 : decode cX9_undo 68 = .ok (.aload_n 0, 1) := by decide +kernel
theorem dX9_undo_69 : decode cX9_undo 69 = .ok (.getfield 152, 3) := by decide +kernel
theorem dX9_undo_72 : decode cX9_undo 72 = .ok (.ireturn, 1) := by decide +kernel
set_option maxRecDepth 20000 in
theorem ggX9_seen_X9_isSkin : GoodIn wsX9_seen wsX9_isSkin := goodIn_r _ [10, 11, 12, 13, 9, 14, 24, 25, 26, 27, 28, 29, 30, 31, 32, 33, 34, 35, 36, 37, 38, 39, 40, 41, 42, 43, 44, 45, 46, 47, 48, 49, 50, 51, 52, 53, 54, 55, 56] (by decide +kernel) (by decide +kernel)
set_option maxRecDepth 20000 in
theorem gX9_seen_X9_isSkin : GoodIn wsX9_seen (wsV RX9 193 RX9 yX9_isSkin wsX9_isSkin) := goodIn_app (goodIn_of _ (by decide +kernel)) ggX9_seen_X9_isSkin
set_option maxRecDepth 20000 in
theorem ggX9_seen_X9_isPlace : GoodIn wsX9_seen wsX9_isPlace := goodIn_r _ [18, 19, 12, 13, 9, 14, 24, 25, 26, 27, 28, 29, 30, 31, 32, 33, 34, 35, 36, 37, 38, 39, 40, 41, 42, 43, 44, 45, 46, 47, 48, 49, 50, 51, 52, 53, 54, 55, 56] (by decide +kernel) (by decide +kernel)
set_option maxRecDepth 20000 in
theorem gX9_seen_X9_isPlace : GoodIn wsX9_seen (wsV RX9 158 RX9 yX9_isPlace wsX9_isPlace) := goodIn_app (goodIn_of _ (by decide +kernel)) ggX9_seen_X9_isPlace
set_option maxRecDepth 20000 in
theorem ggX9_seen_X9_isDay : GoodIn wsX9_seen wsX9_isDay := goodIn_r _ [22, 23, 12, 13, 9, 14] (by decide +kernel) (by decide +kernel)
set_option maxRecDepth 20000 in
theorem gX9_seen_X9_isDay : GoodIn wsX9_seen (va_wsS RX9 198 yX9_isDay wsX9_isDay) := goodIn_app (goodIn_of _ (by decide +kernel)) ggX9_seen_X9_isDay
theorem dX9_seen_0 : decode cX9_seen 0 = .ok (.aload_n 0, 1) := by decide +kernel
theorem dX9_seen_1 : decode cX9_seen 1 = .ok (.iload_n 1, 1) := by decide +kernel
theorem dX9_seen_2 : decode cX9_seen 2 = .ok (.invokevirtual 193, 3) := by decide +kernel
theorem dX9_seen_5 : decode cX9_seen 5 = .ok (.ifCond .eq 18, 3) := by decide +kernel
theorem dX9_seen_8 : decode cX9_seen 8 = .ok (.aload_n 0, 1) := by decide +kernel
theorem dX9_seen_9 : decode cX9_seen 9 = .ok (.iload_n 2, 1) := by decide +kernel
theorem dX9_seen_10 : decode cX9_seen 10 = .ok (.invokevirtual 158, 3) := by decide +kernel
theorem dX9_seen_13 : decode cX9_seen 13 = .ok (.ifCond .eq 10, 3) := by decide +kernel
theorem dX9_seen_16 : decode cX9_seen 16 = .ok (.iload_n 3, 1) := by decide +kernel
theorem dX9_seen_17 : decode cX9_seen 17 = .ok (.invokestatic 198, 3) := by decide +kernel
theorem dX9_seen_20 : decode cX9_seen 20 = .ok (.ifCond .ne 5, 3) := by decide +kernel
theorem dX9_seen_23 : decode cX9_seen 23 = .ok (.iconst (-1), 1) := by decide +kernel
theorem dX9_seen_24 : decode cX9_seen 24 = .ok (.ireturn, 1) := by decide +kernel
theorem dX9_seen_25 : decode cX9_seen 25 = .ok (.aload_n 0, 1) := by decide +kernel
theorem dX9_seen_26 : decode cX9_seen 26 = .ok (.getfield 155, 3) := by decide +kernel
theorem dX9_seen_29 : decode cX9_seen 29 = .ok (.bipush 8, 2) := by decide +kernel
theorem dX9_seen_31 : decode cX9_seen 31 = .ok (.if_icmp .ne 6, 3) := by decide +kernel
theorem dX9_seen_34 : decode cX9_seen 34 = .ok (.bipush (-3), 2) := by decide +kernel
theorem dX9_seen_36 : decode cX9_seen 36 = .ok (.ireturn, 1) := by decide +kernel
theorem dX9_seen_37 : decode cX9_seen 37 = .ok (.aload_n 0, 1) := by decide +kernel
theorem dX9_seen_38 : decode cX9_seen 38 = .ok (.getfield 55, 3) := by decide +kernel
theorem dX9_seen_41 : decode cX9_seen 41 = .ok (.aload_n 0, 1) := by decide +kernel
theorem dX9_seen_42 : decode cX9_seen 42 = .ok (.getfield 155, 3) := by decide +kernel
theorem dX9_seen_45 : decode cX9_seen 45 = .ok (.iload_n 1, 1) := by decide +kernel
theorem dX9_seen_46 : decode cX9_seen 46 = .ok (.iastore, 1) := by decide +kernel
theorem dX9_seen_47 : decode cX9_seen 47 = .ok (.aload_n 0, 1) := by decide +kernel
theorem dX9_seen_48 : decode cX9_seen 48 = .ok (.getfield 58, 3) := by decide +kernel
theorem dX9_seen_51 : decode cX9_seen 51 = .ok (.aload_n 0, 1) := by decide +kernel
theorem dX9_seen_52 : decode cX9_seen 52 = .ok (.getfield 155, 3) := by decide +kernel
theorem dX9_seen_55 : decode cX9_seen 55 = .ok (.iload_n 2, 1) := by decide +kernel
theorem dX9_seen_56 : decode cX9_seen 56 = .ok (.iastore, 1) := by decide +kernel
theorem dX9_seen_57 : decode cX9_seen 57 = .ok (.aload_n 0, 1) := by decide +kernel
theorem dX9_seen_58 : decode cX9_seen 58 = .ok (.getfield 61, 3) := by decide +kernel
theorem dX9_seen_61 : decode cX9_seen 61 = .ok (.aload_n 0, 1) := by decide +kernel
theorem dX9_seen_62 : decode cX9_seen 62 = .ok (.getfield 155, 3) := by decide +kernel
theorem dX9_seen_65 : decode cX9_seen 65 = .ok (.iload_n 3, 1) := by decide +kernel
theorem dX9_seen_66 : decode cX9_seen 66 = .ok (.iastore, 1) := by decide +kernel
theorem dX9_seen_67 : decode cX9_seen 67 = .ok (.aload_n 0, 1) := by decide +kernel
theorem dX9_seen_68 : decode cX9_seen 68 = .ok (.getfield 64, 3) := by decide +kernel
theorem dX9_seen_71 : decode cX9_seen 71 = .ok (.aload_n 0, 1) := by decide +kernel
theorem dX9_seen_72 : decode cX9_seen 72 = .ok (.getfield 155, 3) := by decide +kernel
theorem dX9_seen_75 : decode cX9_seen 75 = .ok (.iload 4, 2) := by decide +kernel
theorem dX9_seen_77 : decode cX9_seen 77 = .ok (.ifCond .eq 7, 3) := by decide +kernel
theorem dX9_seen_80 : decode cX9_seen 80 = .ok (.iconst 1, 1) := by decide +kernel
theorem dX9_seen_81 : decode cX9_seen 81 = .ok (.goto 4, 3) := by decide +kernel
theorem dX9_seen_84 : decode cX9_seen 84 = .ok (.iconst 0, 1) := by decide +kernel
theorem dX9_seen_85 : decode cX9_seen 85 = .ok (.iastore, 1) := by decide +kernel
theorem dX9_seen_86 : decode cX9_seen 86 = .ok (.aload_n 0, 1) := by decide +kernel
theorem dX9_seen_87 : decode cX9_seen 87 = .ok (.dup, 1) := by decide +kernel
theorem dX9_seen_88 : decode cX9_seen 88 = .ok (.getfield 155, 3) := by decide +kernel
theorem dX9_seen_91 : decode cX9_seen 91 = .ok (.iconst 1, 1) := by decide +kernel
theorem dX9_seen_92 : decode cX9_seen 92 = .ok (.iadd, 1) := by decide +kernel
