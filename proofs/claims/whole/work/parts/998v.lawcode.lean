/-! the law, its code (written by wip/gen) -/

abbrev b_law : ByteArray := code
abbrev wl : Cond := Cond.initialized "SpectrumDeskLaw"
theorem d_law_0 : decode b_law 0 = .ok (.new 8, 3) := by decide +kernel
theorem d_law_3 : decode b_law 3 = .ok (.dup, 1) := by decide +kernel
theorem d_law_4 : decode b_law 4 = .ok (.invokespecial 41, 3) := by decide +kernel
theorem d_law_7 : decode b_law 7 = .ok (.astore_n 1, 1) := by decide +kernel
theorem d_law_8 : decode b_law 8 = .ok (.new 42, 3) := by decide +kernel
theorem d_law_11 : decode b_law 11 = .ok (.dup, 1) := by decide +kernel
theorem d_law_12 : decode b_law 12 = .ok (.invokespecial 44, 3) := by decide +kernel
theorem d_law_15 : decode b_law 15 = .ok (.astore_n 2, 1) := by decide +kernel
theorem d_law_16 : decode b_law 16 = .ok (.iconst 1, 1) := by decide +kernel
theorem d_law_17 : decode b_law 17 = .ok (.newarray .long, 2) := by decide +kernel
theorem d_law_19 : decode b_law 19 = .ok (.astore_n 3, 1) := by decide +kernel
theorem d_law_20 : decode b_law 20 = .ok (.iconst 0, 1) := by decide +kernel
theorem d_law_21 : decode b_law 21 = .ok (.istore 4, 2) := by decide +kernel
theorem d_law_23 : decode b_law 23 = .ok (.iload 4, 2) := by decide +kernel
theorem d_law_25 : decode b_law 25 = .ok (.aload_n 0, 1) := by decide +kernel
theorem d_law_26 : decode b_law 26 = .ok (.arraylength, 1) := by decide +kernel
theorem d_law_27 : decode b_law 27 = .ok (.bipush (7), 2) := by decide +kernel
theorem d_law_29 : decode b_law 29 = .ok (.isub, 1) := by decide +kernel
theorem d_law_30 : decode b_law 30 = .ok (.if_icmp .gt (843), 3) := by decide +kernel
theorem d_law_33 : decode b_law 33 = .ok (.aload_n 0, 1) := by decide +kernel
theorem d_law_34 : decode b_law 34 = .ok (.iload 4, 2) := by decide +kernel
theorem d_law_36 : decode b_law 36 = .ok (.iaload, 1) := by decide +kernel
theorem d_law_37 : decode b_law 37 = .ok (.bipush (15), 2) := by decide +kernel
theorem d_law_39 : decode b_law 39 = .ok (.iand, 1) := by decide +kernel
theorem d_law_40 : decode b_law 40 = .ok (.tableswitch 827 0 15 #[80, 116, 176, 244, 269, 356, 369, 394, 419, 444, 602, 669, 725, 738, 801, 814], 80) := by decide +kernel
theorem d_law_120 : decode b_law 120 = .ok (.aload_n 1, 1) := by decide +kernel
theorem d_law_121 : decode b_law 121 = .ok (.aload_n 0, 1) := by decide +kernel
theorem d_law_122 : decode b_law 122 = .ok (.iload 4, 2) := by decide +kernel
theorem d_law_124 : decode b_law 124 = .ok (.iconst 1, 1) := by decide +kernel
theorem d_law_125 : decode b_law 125 = .ok (.iadd, 1) := by decide +kernel
theorem d_law_126 : decode b_law 126 = .ok (.iaload, 1) := by decide +kernel
theorem d_law_127 : decode b_law 127 = .ok (.invokestatic 45, 3) := by decide +kernel
theorem d_law_130 : decode b_law 130 = .ok (.istore 5, 2) := by decide +kernel
theorem d_law_132 : decode b_law 132 = .ok (.aload_n 2, 1) := by decide +kernel
theorem d_law_133 : decode b_law 133 = .ok (.aload_n 0, 1) := by decide +kernel
theorem d_law_134 : decode b_law 134 = .ok (.iload 4, 2) := by decide +kernel
theorem d_law_136 : decode b_law 136 = .ok (.iconst 1, 1) := by decide +kernel
theorem d_law_137 : decode b_law 137 = .ok (.iadd, 1) := by decide +kernel
theorem d_law_138 : decode b_law 138 = .ok (.iaload, 1) := by decide +kernel
theorem d_law_139 : decode b_law 139 = .ok (.invokevirtual 50, 3) := by decide +kernel
theorem d_law_142 : decode b_law 142 = .ok (.aload_n 2, 1) := by decide +kernel
theorem d_law_143 : decode b_law 143 = .ok (.invokevirtual 51, 3) := by decide +kernel
theorem d_law_146 : decode b_law 146 = .ok (.iload 5, 2) := by decide +kernel
theorem d_law_148 : decode b_law 148 = .ok (.if_icmp .eq (5), 3) := by decide +kernel
theorem d_law_151 : decode b_law 151 = .ok (.iconst 0, 1) := by decide +kernel
theorem d_law_152 : decode b_law 152 = .ok (.ireturn, 1) := by decide +kernel
theorem d_law_153 : decode b_law 153 = .ok (.goto (714), 3) := by decide +kernel
theorem d_law_156 : decode b_law 156 = .ok (.aload_n 1, 1) := by decide +kernel
theorem d_law_157 : decode b_law 157 = .ok (.aload_n 0, 1) := by decide +kernel
theorem d_law_158 : decode b_law 158 = .ok (.iload 4, 2) := by decide +kernel
theorem d_law_160 : decode b_law 160 = .ok (.iconst 1, 1) := by decide +kernel
theorem d_law_161 : decode b_law 161 = .ok (.iadd, 1) := by decide +kernel
theorem d_law_162 : decode b_law 162 = .ok (.iaload, 1) := by decide +kernel
theorem d_law_163 : decode b_law 163 = .ok (.aload_n 0, 1) := by decide +kernel
theorem d_law_164 : decode b_law 164 = .ok (.iload 4, 2) := by decide +kernel
theorem d_law_166 : decode b_law 166 = .ok (.iconst 2, 1) := by decide +kernel
theorem d_law_167 : decode b_law 167 = .ok (.iadd, 1) := by decide +kernel
theorem d_law_168 : decode b_law 168 = .ok (.iaload, 1) := by decide +kernel
theorem d_law_169 : decode b_law 169 = .ok (.aload_n 0, 1) := by decide +kernel
theorem d_law_170 : decode b_law 170 = .ok (.iload 4, 2) := by decide +kernel
theorem d_law_172 : decode b_law 172 = .ok (.iconst 3, 1) := by decide +kernel
theorem d_law_173 : decode b_law 173 = .ok (.iadd, 1) := by decide +kernel
theorem d_law_174 : decode b_law 174 = .ok (.iaload, 1) := by decide +kernel
theorem d_law_175 : decode b_law 175 = .ok (.invokestatic 55, 3) := by decide +kernel
theorem d_law_178 : decode b_law 178 = .ok (.istore 5, 2) := by decide +kernel
theorem d_law_180 : decode b_law 180 = .ok (.aload_n 2, 1) := by decide +kernel
theorem d_law_181 : decode b_law 181 = .ok (.aload_n 0, 1) := by decide +kernel
theorem d_law_182 : decode b_law 182 = .ok (.iload 4, 2) := by decide +kernel
theorem d_law_184 : decode b_law 184 = .ok (.iconst 1, 1) := by decide +kernel
theorem d_law_185 : decode b_law 185 = .ok (.iadd, 1) := by decide +kernel
theorem d_law_186 : decode b_law 186 = .ok (.iaload, 1) := by decide +kernel
theorem d_law_187 : decode b_law 187 = .ok (.aload_n 0, 1) := by decide +kernel
theorem d_law_188 : decode b_law 188 = .ok (.iload 4, 2) := by decide +kernel
theorem d_law_190 : decode b_law 190 = .ok (.iconst 2, 1) := by decide +kernel
theorem d_law_191 : decode b_law 191 = .ok (.iadd, 1) := by decide +kernel
theorem d_law_192 : decode b_law 192 = .ok (.iaload, 1) := by decide +kernel
theorem d_law_193 : decode b_law 193 = .ok (.aload_n 0, 1) := by decide +kernel
theorem d_law_194 : decode b_law 194 = .ok (.iload 4, 2) := by decide +kernel
theorem d_law_196 : decode b_law 196 = .ok (.iconst 3, 1) := by decide +kernel
theorem d_law_197 : decode b_law 197 = .ok (.iadd, 1) := by decide +kernel
theorem d_law_198 : decode b_law 198 = .ok (.iaload, 1) := by decide +kernel
theorem d_law_199 : decode b_law 199 = .ok (.invokevirtual 58, 3) := by decide +kernel
theorem d_law_202 : decode b_law 202 = .ok (.aload_n 2, 1) := by decide +kernel
theorem d_law_203 : decode b_law 203 = .ok (.invokevirtual 51, 3) := by decide +kernel
theorem d_law_206 : decode b_law 206 = .ok (.iload 5, 2) := by decide +kernel
theorem d_law_208 : decode b_law 208 = .ok (.if_icmp .eq (5), 3) := by decide +kernel
theorem d_law_211 : decode b_law 211 = .ok (.iconst 0, 1) := by decide +kernel
theorem d_law_212 : decode b_law 212 = .ok (.ireturn, 1) := by decide +kernel
theorem d_law_213 : decode b_law 213 = .ok (.goto (654), 3) := by decide +kernel
theorem d_law_216 : decode b_law 216 = .ok (.aload_n 1, 1) := by decide +kernel
theorem d_law_217 : decode b_law 217 = .ok (.aload_n 0, 1) := by decide +kernel
theorem d_law_218 : decode b_law 218 = .ok (.iload 4, 2) := by decide +kernel
theorem d_law_220 : decode b_law 220 = .ok (.iconst 1, 1) := by decide +kernel
theorem d_law_221 : decode b_law 221 = .ok (.iadd, 1) := by decide +kernel
theorem d_law_222 : decode b_law 222 = .ok (.iaload, 1) := by decide +kernel
theorem d_law_223 : decode b_law 223 = .ok (.aload_n 0, 1) := by decide +kernel
theorem d_law_224 : decode b_law 224 = .ok (.iload 4, 2) := by decide +kernel
theorem d_law_226 : decode b_law 226 = .ok (.iconst 2, 1) := by decide +kernel
theorem d_law_227 : decode b_law 227 = .ok (.iadd, 1) := by decide +kernel
theorem d_law_228 : decode b_law 228 = .ok (.iaload, 1) := by decide +kernel
theorem d_law_229 : decode b_law 229 = .ok (.aload_n 3, 1) := by decide +kernel
theorem d_law_230 : decode b_law 230 = .ok (.invokestatic 59, 3) := by decide +kernel
theorem d_law_233 : decode b_law 233 = .ok (.istore 5, 2) := by decide +kernel
theorem d_law_235 : decode b_law 235 = .ok (.aload_n 2, 1) := by decide +kernel
theorem d_law_236 : decode b_law 236 = .ok (.aload_n 0, 1) := by decide +kernel
theorem d_law_237 : decode b_law 237 = .ok (.iload 4, 2) := by decide +kernel
theorem d_law_239 : decode b_law 239 = .ok (.iconst 1, 1) := by decide +kernel
theorem d_law_240 : decode b_law 240 = .ok (.iadd, 1) := by decide +kernel
theorem d_law_241 : decode b_law 241 = .ok (.iaload, 1) := by decide +kernel
theorem d_law_242 : decode b_law 242 = .ok (.aload_n 0, 1) := by decide +kernel
theorem d_law_243 : decode b_law 243 = .ok (.iload 4, 2) := by decide +kernel
theorem d_law_245 : decode b_law 245 = .ok (.iconst 2, 1) := by decide +kernel
theorem d_law_246 : decode b_law 246 = .ok (.iadd, 1) := by decide +kernel
theorem d_law_247 : decode b_law 247 = .ok (.iaload, 1) := by decide +kernel
theorem d_law_248 : decode b_law 248 = .ok (.invokevirtual 62, 3) := by decide +kernel
theorem d_law_251 : decode b_law 251 = .ok (.istore 6, 2) := by decide +kernel
theorem d_law_253 : decode b_law 253 = .ok (.aload_n 2, 1) := by decide +kernel
theorem d_law_254 : decode b_law 254 = .ok (.invokevirtual 51, 3) := by decide +kernel
theorem d_law_257 : decode b_law 257 = .ok (.iload 5, 2) := by decide +kernel
theorem d_law_259 : decode b_law 259 = .ok (.if_icmp .eq (5), 3) := by decide +kernel
theorem d_law_262 : decode b_law 262 = .ok (.iconst 0, 1) := by decide +kernel
theorem d_law_263 : decode b_law 263 = .ok (.ireturn, 1) := by decide +kernel
theorem d_law_264 : decode b_law 264 = .ok (.iload 5, 2) := by decide +kernel
theorem d_law_266 : decode b_law 266 = .ok (.ifCond .ne (15), 3) := by decide +kernel
theorem d_law_269 : decode b_law 269 = .ok (.aload_n 3, 1) := by decide +kernel
theorem d_law_270 : decode b_law 270 = .ok (.iconst 0, 1) := by decide +kernel
theorem d_law_271 : decode b_law 271 = .ok (.laload, 1) := by decide +kernel
theorem d_law_272 : decode b_law 272 = .ok (.iload 6, 2) := by decide +kernel
theorem d_law_274 : decode b_law 274 = .ok (.i2l, 1) := by decide +kernel
theorem d_law_275 : decode b_law 275 = .ok (.lcmp, 1) := by decide +kernel
theorem d_law_276 : decode b_law 276 = .ok (.ifCond .eq (5), 3) := by decide +kernel
theorem d_law_279 : decode b_law 279 = .ok (.iconst 0, 1) := by decide +kernel
theorem d_law_280 : decode b_law 280 = .ok (.ireturn, 1) := by decide +kernel
theorem d_law_281 : decode b_law 281 = .ok (.goto (586), 3) := by decide +kernel
theorem d_law_284 : decode b_law 284 = .ok (.aload_n 1, 1) := by decide +kernel
theorem d_law_285 : decode b_law 285 = .ok (.aload_n 0, 1) := by decide +kernel
theorem d_law_286 : decode b_law 286 = .ok (.iload 4, 2) := by decide +kernel
theorem d_law_288 : decode b_law 288 = .ok (.iconst 1, 1) := by decide +kernel
theorem d_law_289 : decode b_law 289 = .ok (.iadd, 1) := by decide +kernel
theorem d_law_290 : decode b_law 290 = .ok (.iaload, 1) := by decide +kernel
theorem d_law_291 : decode b_law 291 = .ok (.invokevirtual 63, 3) := by decide +kernel
theorem d_law_294 : decode b_law 294 = .ok (.aload_n 2, 1) := by decide +kernel
theorem d_law_295 : decode b_law 295 = .ok (.aload_n 0, 1) := by decide +kernel
theorem d_law_296 : decode b_law 296 = .ok (.iload 4, 2) := by decide +kernel
theorem d_law_298 : decode b_law 298 = .ok (.iconst 1, 1) := by decide +kernel
theorem d_law_299 : decode b_law 299 = .ok (.iadd, 1) := by decide +kernel
theorem d_law_300 : decode b_law 300 = .ok (.iaload, 1) := by decide +kernel
theorem d_law_301 : decode b_law 301 = .ok (.invokevirtual 66, 3) := by decide +kernel
theorem d_law_304 : decode b_law 304 = .ok (.if_icmp .eq (563), 3) := by decide +kernel
theorem d_law_307 : decode b_law 307 = .ok (.iconst 0, 1) := by decide +kernel
theorem d_law_308 : decode b_law 308 = .ok (.ireturn, 1) := by decide +kernel
theorem d_law_309 : decode b_law 309 = .ok (.aload_n 1, 1) := by decide +kernel
theorem d_law_310 : decode b_law 310 = .ok (.aload_n 0, 1) := by decide +kernel
theorem d_law_311 : decode b_law 311 = .ok (.iload 4, 2) := by decide +kernel
theorem d_law_313 : decode b_law 313 = .ok (.iconst 1, 1) := by decide +kernel
theorem d_law_314 : decode b_law 314 = .ok (.iadd, 1) := by decide +kernel
theorem d_law_315 : decode b_law 315 = .ok (.iaload, 1) := by decide +kernel
theorem d_law_316 : decode b_law 316 = .ok (.aload_n 0, 1) := by decide +kernel
theorem d_law_317 : decode b_law 317 = .ok (.iload 4, 2) := by decide +kernel
theorem d_law_319 : decode b_law 319 = .ok (.iconst 2, 1) := by decide +kernel
theorem d_law_320 : decode b_law 320 = .ok (.iadd, 1) := by decide +kernel
theorem d_law_321 : decode b_law 321 = .ok (.iaload, 1) := by decide +kernel
theorem d_law_322 : decode b_law 322 = .ok (.aload_n 0, 1) := by decide +kernel
theorem d_law_323 : decode b_law 323 = .ok (.iload 4, 2) := by decide +kernel
theorem d_law_325 : decode b_law 325 = .ok (.iconst 3, 1) := by decide +kernel
theorem d_law_326 : decode b_law 326 = .ok (.iadd, 1) := by decide +kernel
theorem d_law_327 : decode b_law 327 = .ok (.iaload, 1) := by decide +kernel
theorem d_law_328 : decode b_law 328 = .ok (.aload_n 0, 1) := by decide +kernel
theorem d_law_329 : decode b_law 329 = .ok (.iload 4, 2) := by decide +kernel
theorem d_law_331 : decode b_law 331 = .ok (.iconst 4, 1) := by decide +kernel
theorem d_law_332 : decode b_law 332 = .ok (.iadd, 1) := by decide +kernel
theorem d_law_333 : decode b_law 333 = .ok (.iaload, 1) := by decide +kernel
theorem d_law_334 : decode b_law 334 = .ok (.aload_n 0, 1) := by decide +kernel
theorem d_law_335 : decode b_law 335 = .ok (.iload 4, 2) := by decide +kernel
theorem d_law_337 : decode b_law 337 = .ok (.iconst 5, 1) := by decide +kernel
theorem d_law_338 : decode b_law 338 = .ok (.iadd, 1) := by decide +kernel
theorem d_law_339 : decode b_law 339 = .ok (.iaload, 1) := by decide +kernel
theorem d_law_340 : decode b_law 340 = .ok (.aload_n 0, 1) := by decide +kernel
theorem d_law_341 : decode b_law 341 = .ok (.iload 4, 2) := by decide +kernel
theorem d_law_343 : decode b_law 343 = .ok (.bipush (6), 2) := by decide +kernel
theorem d_law_345 : decode b_law 345 = .ok (.iadd, 1) := by decide +kernel
theorem d_law_346 : decode b_law 346 = .ok (.iaload, 1) := by decide +kernel
theorem d_law_347 : decode b_law 347 = .ok (.invokevirtual 67, 3) := by decide +kernel
theorem d_law_350 : decode b_law 350 = .ok (.aload_n 2, 1) := by decide +kernel
theorem d_law_351 : decode b_law 351 = .ok (.aload_n 0, 1) := by decide +kernel
theorem d_law_352 : decode b_law 352 = .ok (.iload 4, 2) := by decide +kernel
theorem d_law_354 : decode b_law 354 = .ok (.iconst 1, 1) := by decide +kernel
theorem d_law_355 : decode b_law 355 = .ok (.iadd, 1) := by decide +kernel
theorem d_law_356 : decode b_law 356 = .ok (.iaload, 1) := by decide +kernel
theorem d_law_357 : decode b_law 357 = .ok (.aload_n 0, 1) := by decide +kernel
theorem d_law_358 : decode b_law 358 = .ok (.iload 4, 2) := by decide +kernel
theorem d_law_360 : decode b_law 360 = .ok (.iconst 2, 1) := by decide +kernel
theorem d_law_361 : decode b_law 361 = .ok (.iadd, 1) := by decide +kernel
theorem d_law_362 : decode b_law 362 = .ok (.iaload, 1) := by decide +kernel
theorem d_law_363 : decode b_law 363 = .ok (.aload_n 0, 1) := by decide +kernel
theorem d_law_364 : decode b_law 364 = .ok (.iload 4, 2) := by decide +kernel
theorem d_law_366 : decode b_law 366 = .ok (.iconst 3, 1) := by decide +kernel
theorem d_law_367 : decode b_law 367 = .ok (.iadd, 1) := by decide +kernel
theorem d_law_368 : decode b_law 368 = .ok (.iaload, 1) := by decide +kernel
theorem d_law_369 : decode b_law 369 = .ok (.aload_n 0, 1) := by decide +kernel
theorem d_law_370 : decode b_law 370 = .ok (.iload 4, 2) := by decide +kernel
theorem d_law_372 : decode b_law 372 = .ok (.iconst 4, 1) := by decide +kernel
theorem d_law_373 : decode b_law 373 = .ok (.iadd, 1) := by decide +kernel
theorem d_law_374 : decode b_law 374 = .ok (.iaload, 1) := by decide +kernel
theorem d_law_375 : decode b_law 375 = .ok (.aload_n 0, 1) := by decide +kernel
theorem d_law_376 : decode b_law 376 = .ok (.iload 4, 2) := by decide +kernel
theorem d_law_378 : decode b_law 378 = .ok (.iconst 5, 1) := by decide +kernel
theorem d_law_379 : decode b_law 379 = .ok (.iadd, 1) := by decide +kernel
theorem d_law_380 : decode b_law 380 = .ok (.iaload, 1) := by decide +kernel
theorem d_law_381 : decode b_law 381 = .ok (.aload_n 0, 1) := by decide +kernel
theorem d_law_382 : decode b_law 382 = .ok (.iload 4, 2) := by decide +kernel
theorem d_law_384 : decode b_law 384 = .ok (.bipush (6), 2) := by decide +kernel
theorem d_law_386 : decode b_law 386 = .ok (.iadd, 1) := by decide +kernel
theorem d_law_387 : decode b_law 387 = .ok (.iaload, 1) := by decide +kernel
theorem d_law_388 : decode b_law 388 = .ok (.invokevirtual 71, 3) := by decide +kernel
theorem d_law_391 : decode b_law 391 = .ok (.if_icmp .eq (476), 3) := by decide +kernel
theorem d_law_394 : decode b_law 394 = .ok (.iconst 0, 1) := by decide +kernel
theorem d_law_395 : decode b_law 395 = .ok (.ireturn, 1) := by decide +kernel
theorem d_law_396 : decode b_law 396 = .ok (.aload_n 1, 1) := by decide +kernel
theorem d_law_397 : decode b_law 397 = .ok (.invokevirtual 72, 3) := by decide +kernel
theorem d_law_400 : decode b_law 400 = .ok (.aload_n 2, 1) := by decide +kernel
theorem d_law_401 : decode b_law 401 = .ok (.invokevirtual 75, 3) := by decide +kernel
theorem d_law_404 : decode b_law 404 = .ok (.if_icmp .eq (463), 3) := by decide +kernel
theorem d_law_407 : decode b_law 407 = .ok (.iconst 0, 1) := by decide +kernel
theorem d_law_408 : decode b_law 408 = .ok (.ireturn, 1) := by decide +kernel
theorem d_law_409 : decode b_law 409 = .ok (.aload_n 1, 1) := by decide +kernel
theorem d_law_410 : decode b_law 410 = .ok (.aload_n 0, 1) := by decide +kernel
theorem d_law_411 : decode b_law 411 = .ok (.iload 4, 2) := by decide +kernel
theorem d_law_413 : decode b_law 413 = .ok (.iconst 1, 1) := by decide +kernel
theorem d_law_414 : decode b_law 414 = .ok (.iadd, 1) := by decide +kernel
theorem d_law_415 : decode b_law 415 = .ok (.iaload, 1) := by decide +kernel
theorem d_law_416 : decode b_law 416 = .ok (.invokevirtual 76, 3) := by decide +kernel
theorem d_law_419 : decode b_law 419 = .ok (.aload_n 2, 1) := by decide +kernel
theorem d_law_420 : decode b_law 420 = .ok (.aload_n 0, 1) := by decide +kernel
theorem d_law_421 : decode b_law 421 = .ok (.iload 4, 2) := by decide +kernel
theorem d_law_423 : decode b_law 423 = .ok (.iconst 1, 1) := by decide +kernel
theorem d_law_424 : decode b_law 424 = .ok (.iadd, 1) := by decide +kernel
theorem d_law_425 : decode b_law 425 = .ok (.iaload, 1) := by decide +kernel
theorem d_law_426 : decode b_law 426 = .ok (.invokevirtual 79, 3) := by decide +kernel
theorem d_law_429 : decode b_law 429 = .ok (.if_icmp .eq (438), 3) := by decide +kernel
theorem d_law_432 : decode b_law 432 = .ok (.iconst 0, 1) := by decide +kernel
theorem d_law_433 : decode b_law 433 = .ok (.ireturn, 1) := by decide +kernel
theorem d_law_434 : decode b_law 434 = .ok (.aload_n 1, 1) := by decide +kernel
theorem d_law_435 : decode b_law 435 = .ok (.aload_n 0, 1) := by decide +kernel
theorem d_law_436 : decode b_law 436 = .ok (.iload 4, 2) := by decide +kernel
theorem d_law_438 : decode b_law 438 = .ok (.iconst 1, 1) := by decide +kernel
theorem d_law_439 : decode b_law 439 = .ok (.iadd, 1) := by decide +kernel
theorem d_law_440 : decode b_law 440 = .ok (.iaload, 1) := by decide +kernel
theorem d_law_441 : decode b_law 441 = .ok (.invokevirtual 80, 3) := by decide +kernel
theorem d_law_444 : decode b_law 444 = .ok (.aload_n 2, 1) := by decide +kernel
theorem d_law_445 : decode b_law 445 = .ok (.aload_n 0, 1) := by decide +kernel
theorem d_law_446 : decode b_law 446 = .ok (.iload 4, 2) := by decide +kernel
theorem d_law_448 : decode b_law 448 = .ok (.iconst 1, 1) := by decide +kernel
theorem d_law_449 : decode b_law 449 = .ok (.iadd, 1) := by decide +kernel
theorem d_law_450 : decode b_law 450 = .ok (.iaload, 1) := by decide +kernel
theorem d_law_451 : decode b_law 451 = .ok (.invokevirtual 83, 3) := by decide +kernel
theorem d_law_454 : decode b_law 454 = .ok (.if_icmp .eq (413), 3) := by decide +kernel
theorem d_law_457 : decode b_law 457 = .ok (.iconst 0, 1) := by decide +kernel
theorem d_law_458 : decode b_law 458 = .ok (.ireturn, 1) := by decide +kernel
theorem d_law_459 : decode b_law 459 = .ok (.aload_n 1, 1) := by decide +kernel
theorem d_law_460 : decode b_law 460 = .ok (.aload_n 0, 1) := by decide +kernel
theorem d_law_461 : decode b_law 461 = .ok (.iload 4, 2) := by decide +kernel
theorem d_law_463 : decode b_law 463 = .ok (.iconst 1, 1) := by decide +kernel
theorem d_law_464 : decode b_law 464 = .ok (.iadd, 1) := by decide +kernel
theorem d_law_465 : decode b_law 465 = .ok (.iaload, 1) := by decide +kernel
theorem d_law_466 : decode b_law 466 = .ok (.invokevirtual 84, 3) := by decide +kernel
theorem d_law_469 : decode b_law 469 = .ok (.aload_n 2, 1) := by decide +kernel
theorem d_law_470 : decode b_law 470 = .ok (.aload_n 0, 1) := by decide +kernel
theorem d_law_471 : decode b_law 471 = .ok (.iload 4, 2) := by decide +kernel
theorem d_law_473 : decode b_law 473 = .ok (.iconst 1, 1) := by decide +kernel
theorem d_law_474 : decode b_law 474 = .ok (.iadd, 1) := by decide +kernel
theorem d_law_475 : decode b_law 475 = .ok (.iaload, 1) := by decide +kernel
theorem d_law_476 : decode b_law 476 = .ok (.invokevirtual 87, 3) := by decide +kernel
theorem d_law_479 : decode b_law 479 = .ok (.if_icmp .eq (388), 3) := by decide +kernel
theorem d_law_482 : decode b_law 482 = .ok (.iconst 0, 1) := by decide +kernel
theorem d_law_483 : decode b_law 483 = .ok (.ireturn, 1) := by decide +kernel
theorem d_law_484 : decode b_law 484 = .ok (.aload_n 1, 1) := by decide +kernel
theorem d_law_485 : decode b_law 485 = .ok (.aload_n 0, 1) := by decide +kernel
theorem d_law_486 : decode b_law 486 = .ok (.iload 4, 2) := by decide +kernel
theorem d_law_488 : decode b_law 488 = .ok (.iconst 1, 1) := by decide +kernel
theorem d_law_489 : decode b_law 489 = .ok (.iadd, 1) := by decide +kernel
theorem d_law_490 : decode b_law 490 = .ok (.iaload, 1) := by decide +kernel
theorem d_law_491 : decode b_law 491 = .ok (.aload_n 0, 1) := by decide +kernel
theorem d_law_492 : decode b_law 492 = .ok (.iload 4, 2) := by decide +kernel
theorem d_law_494 : decode b_law 494 = .ok (.iconst 2, 1) := by decide +kernel
theorem d_law_495 : decode b_law 495 = .ok (.iadd, 1) := by decide +kernel
theorem d_law_496 : decode b_law 496 = .ok (.iaload, 1) := by decide +kernel
theorem d_law_497 : decode b_law 497 = .ok (.i2l, 1) := by decide +kernel
theorem d_law_498 : decode b_law 498 = .ok (.bipush (32), 2) := by decide +kernel
theorem d_law_500 : decode b_law 500 = .ok (.lshl, 1) := by decide +kernel
theorem d_law_501 : decode b_law 501 = .ok (.aload_n 0, 1) := by decide +kernel
theorem d_law_502 : decode b_law 502 = .ok (.iload 4, 2) := by decide +kernel
theorem d_law_504 : decode b_law 504 = .ok (.iconst 3, 1) := by decide +kernel
theorem d_law_505 : decode b_law 505 = .ok (.iadd, 1) := by decide +kernel
theorem d_law_506 : decode b_law 506 = .ok (.iaload, 1) := by decide +kernel
theorem d_law_507 : decode b_law 507 = .ok (.i2l, 1) := by decide +kernel
theorem d_law_508 : decode b_law 508 = .ok (.ldc2_w 88, 3) := by decide +kernel
theorem d_law_511 : decode b_law 511 = .ok (.land, 1) := by decide +kernel
theorem d_law_512 : decode b_law 512 = .ok (.lor, 1) := by decide +kernel
theorem d_law_513 : decode b_law 513 = .ok (.aload_n 0, 1) := by decide +kernel
theorem d_law_514 : decode b_law 514 = .ok (.iload 4, 2) := by decide +kernel
theorem d_law_516 : decode b_law 516 = .ok (.iconst 4, 1) := by decide +kernel
theorem d_law_517 : decode b_law 517 = .ok (.iadd, 1) := by decide +kernel
theorem d_law_518 : decode b_law 518 = .ok (.iaload, 1) := by decide +kernel
theorem d_law_519 : decode b_law 519 = .ok (.i2l, 1) := by decide +kernel
theorem d_law_520 : decode b_law 520 = .ok (.bipush (32), 2) := by decide +kernel
theorem d_law_522 : decode b_law 522 = .ok (.lshl, 1) := by decide +kernel
theorem d_law_523 : decode b_law 523 = .ok (.aload_n 0, 1) := by decide +kernel
theorem d_law_524 : decode b_law 524 = .ok (.iload 4, 2) := by decide +kernel
theorem d_law_526 : decode b_law 526 = .ok (.iconst 5, 1) := by decide +kernel
theorem d_law_527 : decode b_law 527 = .ok (.iadd, 1) := by decide +kernel
theorem d_law_528 : decode b_law 528 = .ok (.iaload, 1) := by decide +kernel
theorem d_law_529 : decode b_law 529 = .ok (.i2l, 1) := by decide +kernel
theorem d_law_530 : decode b_law 530 = .ok (.ldc2_w 88, 3) := by decide +kernel
theorem d_law_533 : decode b_law 533 = .ok (.land, 1) := by decide +kernel
theorem d_law_534 : decode b_law 534 = .ok (.lor, 1) := by decide +kernel
theorem d_law_535 : decode b_law 535 = .ok (.aload_n 0, 1) := by decide +kernel
theorem d_law_536 : decode b_law 536 = .ok (.iload 4, 2) := by decide +kernel
theorem d_law_538 : decode b_law 538 = .ok (.bipush (6), 2) := by decide +kernel
theorem d_law_540 : decode b_law 540 = .ok (.iadd, 1) := by decide +kernel
theorem d_law_541 : decode b_law 541 = .ok (.iaload, 1) := by decide +kernel
theorem d_law_542 : decode b_law 542 = .ok (.aload_n 3, 1) := by decide +kernel
theorem d_law_543 : decode b_law 543 = .ok (.invokestatic 90, 3) := by decide +kernel
theorem d_law_546 : decode b_law 546 = .ok (.istore 5, 2) := by decide +kernel
theorem d_law_548 : decode b_law 548 = .ok (.aload_n 2, 1) := by decide +kernel
theorem d_law_549 : decode b_law 549 = .ok (.aload_n 0, 1) := by decide +kernel
theorem d_law_550 : decode b_law 550 = .ok (.iload 4, 2) := by decide +kernel
theorem d_law_552 : decode b_law 552 = .ok (.iconst 1, 1) := by decide +kernel
theorem d_law_553 : decode b_law 553 = .ok (.iadd, 1) := by decide +kernel
theorem d_law_554 : decode b_law 554 = .ok (.iaload, 1) := by decide +kernel
theorem d_law_555 : decode b_law 555 = .ok (.aload_n 0, 1) := by decide +kernel
theorem d_law_556 : decode b_law 556 = .ok (.iload 4, 2) := by decide +kernel
theorem d_law_558 : decode b_law 558 = .ok (.iconst 2, 1) := by decide +kernel
theorem d_law_559 : decode b_law 559 = .ok (.iadd, 1) := by decide +kernel
theorem d_law_560 : decode b_law 560 = .ok (.iaload, 1) := by decide +kernel
theorem d_law_561 : decode b_law 561 = .ok (.i2l, 1) := by decide +kernel
theorem d_law_562 : decode b_law 562 = .ok (.bipush (32), 2) := by decide +kernel
theorem d_law_564 : decode b_law 564 = .ok (.lshl, 1) := by decide +kernel
theorem d_law_565 : decode b_law 565 = .ok (.aload_n 0, 1) := by decide +kernel
theorem d_law_566 : decode b_law 566 = .ok (.iload 4, 2) := by decide +kernel
theorem d_law_568 : decode b_law 568 = .ok (.iconst 3, 1) := by decide +kernel
theorem d_law_569 : decode b_law 569 = .ok (.iadd, 1) := by decide +kernel
theorem d_law_570 : decode b_law 570 = .ok (.iaload, 1) := by decide +kernel
theorem d_law_571 : decode b_law 571 = .ok (.i2l, 1) := by decide +kernel
theorem d_law_572 : decode b_law 572 = .ok (.ldc2_w 88, 3) := by decide +kernel
theorem d_law_575 : decode b_law 575 = .ok (.land, 1) := by decide +kernel
theorem d_law_576 : decode b_law 576 = .ok (.lor, 1) := by decide +kernel
theorem d_law_577 : decode b_law 577 = .ok (.aload_n 0, 1) := by decide +kernel
theorem d_law_578 : decode b_law 578 = .ok (.iload 4, 2) := by decide +kernel
theorem d_law_580 : decode b_law 580 = .ok (.iconst 4, 1) := by decide +kernel
theorem d_law_581 : decode b_law 581 = .ok (.iadd, 1) := by decide +kernel
theorem d_law_582 : decode b_law 582 = .ok (.iaload, 1) := by decide +kernel
theorem d_law_583 : decode b_law 583 = .ok (.i2l, 1) := by decide +kernel
theorem d_law_584 : decode b_law 584 = .ok (.bipush (32), 2) := by decide +kernel
theorem d_law_586 : decode b_law 586 = .ok (.lshl, 1) := by decide +kernel
theorem d_law_587 : decode b_law 587 = .ok (.aload_n 0, 1) := by decide +kernel
theorem d_law_588 : decode b_law 588 = .ok (.iload 4, 2) := by decide +kernel
theorem d_law_590 : decode b_law 590 = .ok (.iconst 5, 1) := by decide +kernel
theorem d_law_591 : decode b_law 591 = .ok (.iadd, 1) := by decide +kernel
theorem d_law_592 : decode b_law 592 = .ok (.iaload, 1) := by decide +kernel
theorem d_law_593 : decode b_law 593 = .ok (.i2l, 1) := by decide +kernel
theorem d_law_594 : decode b_law 594 = .ok (.ldc2_w 88, 3) := by decide +kernel
theorem d_law_597 : decode b_law 597 = .ok (.land, 1) := by decide +kernel
theorem d_law_598 : decode b_law 598 = .ok (.lor, 1) := by decide +kernel
theorem d_law_599 : decode b_law 599 = .ok (.aload_n 0, 1) := by decide +kernel
theorem d_law_600 : decode b_law 600 = .ok (.iload 4, 2) := by decide +kernel
theorem d_law_602 : decode b_law 602 = .ok (.bipush (6), 2) := by decide +kernel
theorem d_law_604 : decode b_law 604 = .ok (.iadd, 1) := by decide +kernel
theorem d_law_605 : decode b_law 605 = .ok (.iaload, 1) := by decide +kernel
theorem d_law_606 : decode b_law 606 = .ok (.invokevirtual 93, 3) := by decide +kernel
theorem d_law_609 : decode b_law 609 = .ok (.istore 6, 2) := by decide +kernel
theorem d_law_611 : decode b_law 611 = .ok (.aload_n 2, 1) := by decide +kernel
theorem d_law_612 : decode b_law 612 = .ok (.invokevirtual 51, 3) := by decide +kernel
theorem d_law_615 : decode b_law 615 = .ok (.iload 5, 2) := by decide +kernel
theorem d_law_617 : decode b_law 617 = .ok (.if_icmp .eq (5), 3) := by decide +kernel
theorem d_law_620 : decode b_law 620 = .ok (.iconst 0, 1) := by decide +kernel
theorem d_law_621 : decode b_law 621 = .ok (.ireturn, 1) := by decide +kernel
theorem d_law_622 : decode b_law 622 = .ok (.iload 5, 2) := by decide +kernel
theorem d_law_624 : decode b_law 624 = .ok (.ifCond .ne (15), 3) := by decide +kernel
theorem d_law_627 : decode b_law 627 = .ok (.aload_n 3, 1) := by decide +kernel
theorem d_law_628 : decode b_law 628 = .ok (.iconst 0, 1) := by decide +kernel
theorem d_law_629 : decode b_law 629 = .ok (.laload, 1) := by decide +kernel
theorem d_law_630 : decode b_law 630 = .ok (.iload 6, 2) := by decide +kernel
theorem d_law_632 : decode b_law 632 = .ok (.i2l, 1) := by decide +kernel
theorem d_law_633 : decode b_law 633 = .ok (.lcmp, 1) := by decide +kernel
theorem d_law_634 : decode b_law 634 = .ok (.ifCond .eq (5), 3) := by decide +kernel
theorem d_law_637 : decode b_law 637 = .ok (.iconst 0, 1) := by decide +kernel
theorem d_law_638 : decode b_law 638 = .ok (.ireturn, 1) := by decide +kernel
theorem d_law_639 : decode b_law 639 = .ok (.goto (228), 3) := by decide +kernel
theorem d_law_642 : decode b_law 642 = .ok (.aload_n 1, 1) := by decide +kernel
theorem d_law_643 : decode b_law 643 = .ok (.aload_n 0, 1) := by decide +kernel
theorem d_law_644 : decode b_law 644 = .ok (.iload 4, 2) := by decide +kernel
theorem d_law_646 : decode b_law 646 = .ok (.iconst 1, 1) := by decide +kernel
theorem d_law_647 : decode b_law 647 = .ok (.iadd, 1) := by decide +kernel
theorem d_law_648 : decode b_law 648 = .ok (.iaload, 1) := by decide +kernel
theorem d_law_649 : decode b_law 649 = .ok (.aload_n 0, 1) := by decide +kernel
theorem d_law_650 : decode b_law 650 = .ok (.iload 4, 2) := by decide +kernel
theorem d_law_652 : decode b_law 652 = .ok (.iconst 2, 1) := by decide +kernel
theorem d_law_653 : decode b_law 653 = .ok (.iadd, 1) := by decide +kernel
theorem d_law_654 : decode b_law 654 = .ok (.iaload, 1) := by decide +kernel
theorem d_law_655 : decode b_law 655 = .ok (.aload_n 3, 1) := by decide +kernel
theorem d_law_656 : decode b_law 656 = .ok (.invokestatic 94, 3) := by decide +kernel
theorem d_law_659 : decode b_law 659 = .ok (.istore 5, 2) := by decide +kernel
theorem d_law_661 : decode b_law 661 = .ok (.aload_n 2, 1) := by decide +kernel
theorem d_law_662 : decode b_law 662 = .ok (.aload_n 0, 1) := by decide +kernel
theorem d_law_663 : decode b_law 663 = .ok (.iload 4, 2) := by decide +kernel
theorem d_law_665 : decode b_law 665 = .ok (.iconst 1, 1) := by decide +kernel
theorem d_law_666 : decode b_law 666 = .ok (.iadd, 1) := by decide +kernel
theorem d_law_667 : decode b_law 667 = .ok (.iaload, 1) := by decide +kernel
theorem d_law_668 : decode b_law 668 = .ok (.aload_n 0, 1) := by decide +kernel
theorem d_law_669 : decode b_law 669 = .ok (.iload 4, 2) := by decide +kernel
theorem d_law_671 : decode b_law 671 = .ok (.iconst 2, 1) := by decide +kernel
theorem d_law_672 : decode b_law 672 = .ok (.iadd, 1) := by decide +kernel
theorem d_law_673 : decode b_law 673 = .ok (.iaload, 1) := by decide +kernel
theorem d_law_674 : decode b_law 674 = .ok (.invokevirtual 96, 3) := by decide +kernel
theorem d_law_677 : decode b_law 677 = .ok (.lstore 6, 2) := by decide +kernel
theorem d_law_679 : decode b_law 679 = .ok (.aload_n 2, 1) := by decide +kernel
theorem d_law_680 : decode b_law 680 = .ok (.invokevirtual 51, 3) := by decide +kernel
theorem d_law_683 : decode b_law 683 = .ok (.iload 5, 2) := by decide +kernel
theorem d_law_685 : decode b_law 685 = .ok (.if_icmp .eq (5), 3) := by decide +kernel
theorem d_law_688 : decode b_law 688 = .ok (.iconst 0, 1) := by decide +kernel
theorem d_law_689 : decode b_law 689 = .ok (.ireturn, 1) := by decide +kernel
theorem d_law_690 : decode b_law 690 = .ok (.iload 5, 2) := by decide +kernel
theorem d_law_692 : decode b_law 692 = .ok (.ifCond .ne (14), 3) := by decide +kernel
theorem d_law_695 : decode b_law 695 = .ok (.aload_n 3, 1) := by decide +kernel
theorem d_law_696 : decode b_law 696 = .ok (.iconst 0, 1) := by decide +kernel
theorem d_law_697 : decode b_law 697 = .ok (.laload, 1) := by decide +kernel
theorem d_law_698 : decode b_law 698 = .ok (.lload 6, 2) := by decide +kernel
theorem d_law_700 : decode b_law 700 = .ok (.lcmp, 1) := by decide +kernel
theorem d_law_701 : decode b_law 701 = .ok (.ifCond .eq (5), 3) := by decide +kernel
theorem d_law_704 : decode b_law 704 = .ok (.iconst 0, 1) := by decide +kernel
theorem d_law_705 : decode b_law 705 = .ok (.ireturn, 1) := by decide +kernel
theorem d_law_706 : decode b_law 706 = .ok (.goto (161), 3) := by decide +kernel
theorem d_law_709 : decode b_law 709 = .ok (.aload_n 1, 1) := by decide +kernel
theorem d_law_710 : decode b_law 710 = .ok (.aload_n 0, 1) := by decide +kernel
theorem d_law_711 : decode b_law 711 = .ok (.iload 4, 2) := by decide +kernel
theorem d_law_713 : decode b_law 713 = .ok (.iconst 1, 1) := by decide +kernel
theorem d_law_714 : decode b_law 714 = .ok (.iadd, 1) := by decide +kernel
theorem d_law_715 : decode b_law 715 = .ok (.iaload, 1) := by decide +kernel
theorem d_law_716 : decode b_law 716 = .ok (.aload_n 3, 1) := by decide +kernel
theorem d_law_717 : decode b_law 717 = .ok (.invokestatic 97, 3) := by decide +kernel
theorem d_law_720 : decode b_law 720 = .ok (.istore 5, 2) := by decide +kernel
theorem d_law_722 : decode b_law 722 = .ok (.aload_n 2, 1) := by decide +kernel
theorem d_law_723 : decode b_law 723 = .ok (.aload_n 0, 1) := by decide +kernel
theorem d_law_724 : decode b_law 724 = .ok (.iload 4, 2) := by decide +kernel
theorem d_law_726 : decode b_law 726 = .ok (.iconst 1, 1) := by decide +kernel
theorem d_law_727 : decode b_law 727 = .ok (.iadd, 1) := by decide +kernel
theorem d_law_728 : decode b_law 728 = .ok (.iaload, 1) := by decide +kernel
theorem d_law_729 : decode b_law 729 = .ok (.invokevirtual 100, 3) := by decide +kernel
theorem d_law_732 : decode b_law 732 = .ok (.istore 6, 2) := by decide +kernel
theorem d_law_734 : decode b_law 734 = .ok (.aload_n 2, 1) := by decide +kernel
theorem d_law_735 : decode b_law 735 = .ok (.invokevirtual 51, 3) := by decide +kernel
theorem d_law_738 : decode b_law 738 = .ok (.iload 5, 2) := by decide +kernel
theorem d_law_740 : decode b_law 740 = .ok (.if_icmp .eq (5), 3) := by decide +kernel
theorem d_law_743 : decode b_law 743 = .ok (.iconst 0, 1) := by decide +kernel
theorem d_law_744 : decode b_law 744 = .ok (.ireturn, 1) := by decide +kernel
theorem d_law_745 : decode b_law 745 = .ok (.iload 5, 2) := by decide +kernel
theorem d_law_747 : decode b_law 747 = .ok (.ifCond .ne (15), 3) := by decide +kernel
theorem d_law_750 : decode b_law 750 = .ok (.aload_n 3, 1) := by decide +kernel
theorem d_law_751 : decode b_law 751 = .ok (.iconst 0, 1) := by decide +kernel
theorem d_law_752 : decode b_law 752 = .ok (.laload, 1) := by decide +kernel
theorem d_law_753 : decode b_law 753 = .ok (.iload 6, 2) := by decide +kernel
theorem d_law_755 : decode b_law 755 = .ok (.i2l, 1) := by decide +kernel
theorem d_law_756 : decode b_law 756 = .ok (.lcmp, 1) := by decide +kernel
theorem d_law_757 : decode b_law 757 = .ok (.ifCond .eq (5), 3) := by decide +kernel
theorem d_law_760 : decode b_law 760 = .ok (.iconst 0, 1) := by decide +kernel
theorem d_law_761 : decode b_law 761 = .ok (.ireturn, 1) := by decide +kernel
theorem d_law_762 : decode b_law 762 = .ok (.goto (105), 3) := by decide +kernel
theorem d_law_765 : decode b_law 765 = .ok (.aload_n 1, 1) := by decide +kernel
theorem d_law_766 : decode b_law 766 = .ok (.invokevirtual 101, 3) := by decide +kernel
theorem d_law_769 : decode b_law 769 = .ok (.aload_n 2, 1) := by decide +kernel
theorem d_law_770 : decode b_law 770 = .ok (.invokevirtual 104, 3) := by decide +kernel
theorem d_law_773 : decode b_law 773 = .ok (.if_icmp .eq (94), 3) := by decide +kernel
theorem d_law_776 : decode b_law 776 = .ok (.iconst 0, 1) := by decide +kernel
theorem d_law_777 : decode b_law 777 = .ok (.ireturn, 1) := by decide +kernel
theorem d_law_778 : decode b_law 778 = .ok (.aload_n 1, 1) := by decide +kernel
theorem d_law_779 : decode b_law 779 = .ok (.aload_n 0, 1) := by decide +kernel
theorem d_law_780 : decode b_law 780 = .ok (.iload 4, 2) := by decide +kernel
theorem d_law_782 : decode b_law 782 = .ok (.iconst 1, 1) := by decide +kernel
theorem d_law_783 : decode b_law 783 = .ok (.iadd, 1) := by decide +kernel
theorem d_law_784 : decode b_law 784 = .ok (.iaload, 1) := by decide +kernel
theorem d_law_785 : decode b_law 785 = .ok (.aload_n 3, 1) := by decide +kernel
theorem d_law_786 : decode b_law 786 = .ok (.invokestatic 105, 3) := by decide +kernel
theorem d_law_789 : decode b_law 789 = .ok (.istore 5, 2) := by decide +kernel
theorem d_law_791 : decode b_law 791 = .ok (.aload_n 2, 1) := by decide +kernel
theorem d_law_792 : decode b_law 792 = .ok (.aload_n 0, 1) := by decide +kernel
theorem d_law_793 : decode b_law 793 = .ok (.iload 4, 2) := by decide +kernel
theorem d_law_795 : decode b_law 795 = .ok (.iconst 1, 1) := by decide +kernel
theorem d_law_796 : decode b_law 796 = .ok (.iadd, 1) := by decide +kernel
theorem d_law_797 : decode b_law 797 = .ok (.iaload, 1) := by decide +kernel
theorem d_law_798 : decode b_law 798 = .ok (.invokevirtual 107, 3) := by decide +kernel
theorem d_law_801 : decode b_law 801 = .ok (.istore 6, 2) := by decide +kernel
theorem d_law_803 : decode b_law 803 = .ok (.aload_n 2, 1) := by decide +kernel
theorem d_law_804 : decode b_law 804 = .ok (.invokevirtual 51, 3) := by decide +kernel
theorem d_law_807 : decode b_law 807 = .ok (.iload 5, 2) := by decide +kernel
theorem d_law_809 : decode b_law 809 = .ok (.if_icmp .eq (5), 3) := by decide +kernel
theorem d_law_812 : decode b_law 812 = .ok (.iconst 0, 1) := by decide +kernel
theorem d_law_813 : decode b_law 813 = .ok (.ireturn, 1) := by decide +kernel
theorem d_law_814 : decode b_law 814 = .ok (.iload 5, 2) := by decide +kernel
theorem d_law_816 : decode b_law 816 = .ok (.ifCond .ne (22), 3) := by decide +kernel
theorem d_law_819 : decode b_law 819 = .ok (.aload_n 3, 1) := by decide +kernel
theorem d_law_820 : decode b_law 820 = .ok (.iconst 0, 1) := by decide +kernel
theorem d_law_821 : decode b_law 821 = .ok (.laload, 1) := by decide +kernel
theorem d_law_822 : decode b_law 822 = .ok (.iload 6, 2) := by decide +kernel
theorem d_law_824 : decode b_law 824 = .ok (.ifCond .eq (7), 3) := by decide +kernel
theorem d_law_827 : decode b_law 827 = .ok (.lconst 1, 1) := by decide +kernel
theorem d_law_828 : decode b_law 828 = .ok (.goto (4), 3) := by decide +kernel
theorem d_law_831 : decode b_law 831 = .ok (.lconst 0, 1) := by decide +kernel
theorem d_law_832 : decode b_law 832 = .ok (.lcmp, 1) := by decide +kernel
theorem d_law_833 : decode b_law 833 = .ok (.ifCond .eq (5), 3) := by decide +kernel
theorem d_law_836 : decode b_law 836 = .ok (.iconst 0, 1) := by decide +kernel
theorem d_law_837 : decode b_law 837 = .ok (.ireturn, 1) := by decide +kernel
theorem d_law_838 : decode b_law 838 = .ok (.goto (29), 3) := by decide +kernel
theorem d_law_841 : decode b_law 841 = .ok (.aload_n 1, 1) := by decide +kernel
theorem d_law_842 : decode b_law 842 = .ok (.invokevirtual 108, 3) := by decide +kernel
theorem d_law_845 : decode b_law 845 = .ok (.aload_n 2, 1) := by decide +kernel
theorem d_law_846 : decode b_law 846 = .ok (.invokevirtual 111, 3) := by decide +kernel
theorem d_law_849 : decode b_law 849 = .ok (.if_icmp .eq (18), 3) := by decide +kernel
theorem d_law_852 : decode b_law 852 = .ok (.iconst 0, 1) := by decide +kernel
theorem d_law_853 : decode b_law 853 = .ok (.ireturn, 1) := by decide +kernel
theorem d_law_854 : decode b_law 854 = .ok (.aload_n 1, 1) := by decide +kernel
theorem d_law_855 : decode b_law 855 = .ok (.invokevirtual 112, 3) := by decide +kernel
theorem d_law_858 : decode b_law 858 = .ok (.aload_n 2, 1) := by decide +kernel
theorem d_law_859 : decode b_law 859 = .ok (.invokevirtual 115, 3) := by decide +kernel
theorem d_law_862 : decode b_law 862 = .ok (.if_icmp .eq (5), 3) := by decide +kernel
theorem d_law_865 : decode b_law 865 = .ok (.iconst 0, 1) := by decide +kernel
theorem d_law_866 : decode b_law 866 = .ok (.ireturn, 1) := by decide +kernel
theorem d_law_867 : decode b_law 867 = .ok (.iinc 4 (7), 3) := by decide +kernel
theorem d_law_870 : decode b_law 870 = .ok (.goto (-847), 3) := by decide +kernel
theorem d_law_873 : decode b_law 873 = .ok (.iconst 1, 1) := by decide +kernel
theorem d_law_874 : decode b_law 874 = .ok (.ireturn, 1) := by decide +kernel
