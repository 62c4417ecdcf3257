/-! The law: its instructions -/
theorem dLAW_0 : decode code 0 = .ok (.new 8, 3) := by decide +kernel
theorem dLAW_3 : decode code 3 = .ok (.dup, 1) := by decide +kernel
theorem dLAW_4 : decode code 4 = .ok (.aload_n 0, 1) := by decide +kernel
theorem dLAW_5 : decode code 5 = .ok (.iconst 0, 1) := by decide +kernel
theorem dLAW_6 : decode code 6 = .ok (.invokestatic 35, 3) := by decide +kernel
theorem dLAW_9 : decode code 9 = .ok (.aload_n 0, 1) := by decide +kernel
theorem dLAW_10 : decode code 10 = .ok (.iconst 1, 1) := by decide +kernel
theorem dLAW_11 : decode code 11 = .ok (.invokestatic 35, 3) := by decide +kernel
theorem dLAW_14 : decode code 14 = .ok (.invokespecial 41, 3) := by decide +kernel
theorem dLAW_17 : decode code 17 = .ok (.astore_n 1, 1) := by decide +kernel
theorem dLAW_18 : decode code 18 = .ok (.new 44, 3) := by decide +kernel
theorem dLAW_21 : decode code 21 = .ok (.dup, 1) := by decide +kernel
theorem dLAW_22 : decode code 22 = .ok (.aload_n 0, 1) := by decide +kernel
theorem dLAW_23 : decode code 23 = .ok (.iconst 0, 1) := by decide +kernel
theorem dLAW_24 : decode code 24 = .ok (.invokestatic 35, 3) := by decide +kernel
theorem dLAW_27 : decode code 27 = .ok (.aload_n 0, 1) := by decide +kernel
theorem dLAW_28 : decode code 28 = .ok (.iconst 1, 1) := by decide +kernel
theorem dLAW_29 : decode code 29 = .ok (.invokestatic 35, 3) := by decide +kernel
theorem dLAW_32 : decode code 32 = .ok (.invokespecial 46, 3) := by decide +kernel
theorem dLAW_35 : decode code 35 = .ok (.astore_n 2, 1) := by decide +kernel
theorem dLAW_36 : decode code 36 = .ok (.iconst 1, 1) := by decide +kernel
theorem dLAW_37 : decode code 37 = .ok (.newarray .long, 2) := by decide +kernel
theorem dLAW_39 : decode code 39 = .ok (.astore_n 3, 1) := by decide +kernel
theorem dLAW_40 : decode code 40 = .ok (.iconst 2, 1) := by decide +kernel
theorem dLAW_41 : decode code 41 = .ok (.istore 4, 2) := by decide +kernel
theorem dLAW_43 : decode code 43 = .ok (.iload 4, 2) := by decide +kernel
theorem dLAW_45 : decode code 45 = .ok (.aload_n 0, 1) := by decide +kernel
theorem dLAW_46 : decode code 46 = .ok (.arraylength, 1) := by decide +kernel
theorem dLAW_47 : decode code 47 = .ok (.iconst 5, 1) := by decide +kernel
theorem dLAW_48 : decode code 48 = .ok (.isub, 1) := by decide +kernel
theorem dLAW_49 : decode code 49 = .ok (.if_icmp .gt 727, 3) := by decide +kernel
theorem dLAW_52 : decode code 52 = .ok (.aload_n 0, 1) := by decide +kernel
theorem dLAW_53 : decode code 53 = .ok (.iload 4, 2) := by decide +kernel
theorem dLAW_55 : decode code 55 = .ok (.iaload, 1) := by decide +kernel
theorem dLAW_56 : decode code 56 = .ok (.bipush 15, 2) := by decide +kernel
theorem dLAW_58 : decode code 58 = .ok (.iand, 1) := by decide +kernel
theorem dLAW_59 : decode code 59 = .ok (.tableswitch 711 0 12 #[65, 102, 127, 176, 268, 380, 436, 485, 522, 618, 643, 654, 698], 65) := by decide +kernel
theorem dLAW_124 : decode code 124 = .ok (.aload_n 1, 1) := by decide +kernel
theorem dLAW_125 : decode code 125 = .ok (.aload_n 0, 1) := by decide +kernel
theorem dLAW_126 : decode code 126 = .ok (.iload 4, 2) := by decide +kernel
theorem dLAW_128 : decode code 128 = .ok (.iconst 1, 1) := by decide +kernel
theorem dLAW_129 : decode code 129 = .ok (.iadd, 1) := by decide +kernel
theorem dLAW_130 : decode code 130 = .ok (.iaload, 1) := by decide +kernel
theorem dLAW_131 : decode code 131 = .ok (.aload_n 0, 1) := by decide +kernel
theorem dLAW_132 : decode code 132 = .ok (.iload 4, 2) := by decide +kernel
theorem dLAW_134 : decode code 134 = .ok (.iconst 2, 1) := by decide +kernel
theorem dLAW_135 : decode code 135 = .ok (.iadd, 1) := by decide +kernel
theorem dLAW_136 : decode code 136 = .ok (.iaload, 1) := by decide +kernel
theorem dLAW_137 : decode code 137 = .ok (.invokevirtual 47, 3) := by decide +kernel
theorem dLAW_140 : decode code 140 = .ok (.aload_n 2, 1) := by decide +kernel
theorem dLAW_141 : decode code 141 = .ok (.aload_n 0, 1) := by decide +kernel
theorem dLAW_142 : decode code 142 = .ok (.iload 4, 2) := by decide +kernel
theorem dLAW_144 : decode code 144 = .ok (.iconst 1, 1) := by decide +kernel
theorem dLAW_145 : decode code 145 = .ok (.iadd, 1) := by decide +kernel
theorem dLAW_146 : decode code 146 = .ok (.iaload, 1) := by decide +kernel
theorem dLAW_147 : decode code 147 = .ok (.aload_n 0, 1) := by decide +kernel
theorem dLAW_148 : decode code 148 = .ok (.iload 4, 2) := by decide +kernel
theorem dLAW_150 : decode code 150 = .ok (.iconst 2, 1) := by decide +kernel
theorem dLAW_151 : decode code 151 = .ok (.iadd, 1) := by decide +kernel
theorem dLAW_152 : decode code 152 = .ok (.iaload, 1) := by decide +kernel
theorem dLAW_153 : decode code 153 = .ok (.invokevirtual 51, 3) := by decide +kernel
theorem dLAW_156 : decode code 156 = .ok (.if_icmp .eq 614, 3) := by decide +kernel
theorem dLAW_159 : decode code 159 = .ok (.iconst 0, 1) := by decide +kernel
theorem dLAW_160 : decode code 160 = .ok (.ireturn, 1) := by decide +kernel
theorem dLAW_161 : decode code 161 = .ok (.aload_n 1, 1) := by decide +kernel
theorem dLAW_162 : decode code 162 = .ok (.aload_n 0, 1) := by decide +kernel
theorem dLAW_163 : decode code 163 = .ok (.iload 4, 2) := by decide +kernel
theorem dLAW_165 : decode code 165 = .ok (.iconst 1, 1) := by decide +kernel
theorem dLAW_166 : decode code 166 = .ok (.iadd, 1) := by decide +kernel
theorem dLAW_167 : decode code 167 = .ok (.iaload, 1) := by decide +kernel
theorem dLAW_168 : decode code 168 = .ok (.invokevirtual 52, 3) := by decide +kernel
theorem dLAW_171 : decode code 171 = .ok (.aload_n 2, 1) := by decide +kernel
theorem dLAW_172 : decode code 172 = .ok (.aload_n 0, 1) := by decide +kernel
theorem dLAW_173 : decode code 173 = .ok (.iload 4, 2) := by decide +kernel
theorem dLAW_175 : decode code 175 = .ok (.iconst 1, 1) := by decide +kernel
theorem dLAW_176 : decode code 176 = .ok (.iadd, 1) := by decide +kernel
theorem dLAW_177 : decode code 177 = .ok (.iaload, 1) := by decide +kernel
theorem dLAW_178 : decode code 178 = .ok (.invokevirtual 56, 3) := by decide +kernel
theorem dLAW_181 : decode code 181 = .ok (.if_icmp .eq 589, 3) := by decide +kernel
theorem dLAW_184 : decode code 184 = .ok (.iconst 0, 1) := by decide +kernel
theorem dLAW_185 : decode code 185 = .ok (.ireturn, 1) := by decide +kernel
theorem dLAW_186 : decode code 186 = .ok (.aload_n 1, 1) := by decide +kernel
theorem dLAW_187 : decode code 187 = .ok (.aload_n 0, 1) := by decide +kernel
theorem dLAW_188 : decode code 188 = .ok (.iload 4, 2) := by decide +kernel
theorem dLAW_190 : decode code 190 = .ok (.iconst 1, 1) := by decide +kernel
theorem dLAW_191 : decode code 191 = .ok (.iadd, 1) := by decide +kernel
theorem dLAW_192 : decode code 192 = .ok (.iaload, 1) := by decide +kernel
theorem dLAW_193 : decode code 193 = .ok (.aload_n 0, 1) := by decide +kernel
theorem dLAW_194 : decode code 194 = .ok (.iload 4, 2) := by decide +kernel
theorem dLAW_196 : decode code 196 = .ok (.iconst 2, 1) := by decide +kernel
theorem dLAW_197 : decode code 197 = .ok (.iadd, 1) := by decide +kernel
theorem dLAW_198 : decode code 198 = .ok (.iaload, 1) := by decide +kernel
theorem dLAW_199 : decode code 199 = .ok (.aload_n 0, 1) := by decide +kernel
theorem dLAW_200 : decode code 200 = .ok (.iload 4, 2) := by decide +kernel
theorem dLAW_202 : decode code 202 = .ok (.iconst 3, 1) := by decide +kernel
theorem dLAW_203 : decode code 203 = .ok (.iadd, 1) := by decide +kernel
theorem dLAW_204 : decode code 204 = .ok (.iaload, 1) := by decide +kernel
theorem dLAW_205 : decode code 205 = .ok (.invokevirtual 57, 3) := by decide +kernel
theorem dLAW_208 : decode code 208 = .ok (.aload_n 2, 1) := by decide +kernel
theorem dLAW_209 : decode code 209 = .ok (.aload_n 0, 1) := by decide +kernel
theorem dLAW_210 : decode code 210 = .ok (.iload 4, 2) := by decide +kernel
theorem dLAW_212 : decode code 212 = .ok (.iconst 1, 1) := by decide +kernel
theorem dLAW_213 : decode code 213 = .ok (.iadd, 1) := by decide +kernel
theorem dLAW_214 : decode code 214 = .ok (.iaload, 1) := by decide +kernel
theorem dLAW_215 : decode code 215 = .ok (.aload_n 0, 1) := by decide +kernel
theorem dLAW_216 : decode code 216 = .ok (.iload 4, 2) := by decide +kernel
theorem dLAW_218 : decode code 218 = .ok (.iconst 2, 1) := by decide +kernel
theorem dLAW_219 : decode code 219 = .ok (.iadd, 1) := by decide +kernel
theorem dLAW_220 : decode code 220 = .ok (.iaload, 1) := by decide +kernel
theorem dLAW_221 : decode code 221 = .ok (.aload_n 0, 1) := by decide +kernel
theorem dLAW_222 : decode code 222 = .ok (.iload 4, 2) := by decide +kernel
theorem dLAW_224 : decode code 224 = .ok (.iconst 3, 1) := by decide +kernel
theorem dLAW_225 : decode code 225 = .ok (.iadd, 1) := by decide +kernel
theorem dLAW_226 : decode code 226 = .ok (.iaload, 1) := by decide +kernel
theorem dLAW_227 : decode code 227 = .ok (.invokevirtual 61, 3) := by decide +kernel
theorem dLAW_230 : decode code 230 = .ok (.if_icmp .eq 540, 3) := by decide +kernel
theorem dLAW_233 : decode code 233 = .ok (.iconst 0, 1) := by decide +kernel
theorem dLAW_234 : decode code 234 = .ok (.ireturn, 1) := by decide +kernel
theorem dLAW_235 : decode code 235 = .ok (.aload_n 1, 1) := by decide +kernel
theorem dLAW_236 : decode code 236 = .ok (.aload_n 0, 1) := by decide +kernel
theorem dLAW_237 : decode code 237 = .ok (.iload 4, 2) := by decide +kernel
theorem dLAW_239 : decode code 239 = .ok (.iconst 1, 1) := by decide +kernel
theorem dLAW_240 : decode code 240 = .ok (.iadd, 1) := by decide +kernel
theorem dLAW_241 : decode code 241 = .ok (.iaload, 1) := by decide +kernel
theorem dLAW_242 : decode code 242 = .ok (.aload_n 0, 1) := by decide +kernel
theorem dLAW_243 : decode code 243 = .ok (.iload 4, 2) := by decide +kernel
theorem dLAW_245 : decode code 245 = .ok (.iconst 2, 1) := by decide +kernel
theorem dLAW_246 : decode code 246 = .ok (.iadd, 1) := by decide +kernel
theorem dLAW_247 : decode code 247 = .ok (.iaload, 1) := by decide +kernel
theorem dLAW_248 : decode code 248 = .ok (.aload_n 0, 1) := by decide +kernel
theorem dLAW_249 : decode code 249 = .ok (.iload 4, 2) := by decide +kernel
theorem dLAW_251 : decode code 251 = .ok (.iconst 3, 1) := by decide +kernel
theorem dLAW_252 : decode code 252 = .ok (.iadd, 1) := by decide +kernel
theorem dLAW_253 : decode code 253 = .ok (.iaload, 1) := by decide +kernel
theorem dLAW_254 : decode code 254 = .ok (.aload_n 0, 1) := by decide +kernel
theorem dLAW_255 : decode code 255 = .ok (.iload 4, 2) := by decide +kernel
theorem dLAW_257 : decode code 257 = .ok (.iconst 4, 1) := by decide +kernel
theorem dLAW_258 : decode code 258 = .ok (.iadd, 1) := by decide +kernel
theorem dLAW_259 : decode code 259 = .ok (.iaload, 1) := by decide +kernel
theorem dLAW_260 : decode code 260 = .ok (.aload_n 3, 1) := by decide +kernel
theorem dLAW_261 : decode code 261 = .ok (.invokestatic 62, 3) := by decide +kernel
theorem dLAW_264 : decode code 264 = .ok (.istore 5, 2) := by decide +kernel
theorem dLAW_266 : decode code 266 = .ok (.aload_n 2, 1) := by decide +kernel
theorem dLAW_267 : decode code 267 = .ok (.aload_n 0, 1) := by decide +kernel
theorem dLAW_268 : decode code 268 = .ok (.iload 4, 2) := by decide +kernel
theorem dLAW_270 : decode code 270 = .ok (.iconst 1, 1) := by decide +kernel
theorem dLAW_271 : decode code 271 = .ok (.iadd, 1) := by decide +kernel
theorem dLAW_272 : decode code 272 = .ok (.iaload, 1) := by decide +kernel
theorem dLAW_273 : decode code 273 = .ok (.aload_n 0, 1) := by decide +kernel
theorem dLAW_274 : decode code 274 = .ok (.iload 4, 2) := by decide +kernel
theorem dLAW_276 : decode code 276 = .ok (.iconst 2, 1) := by decide +kernel
theorem dLAW_277 : decode code 277 = .ok (.iadd, 1) := by decide +kernel
theorem dLAW_278 : decode code 278 = .ok (.iaload, 1) := by decide +kernel
theorem dLAW_279 : decode code 279 = .ok (.aload_n 0, 1) := by decide +kernel
theorem dLAW_280 : decode code 280 = .ok (.iload 4, 2) := by decide +kernel
theorem dLAW_282 : decode code 282 = .ok (.iconst 3, 1) := by decide +kernel
theorem dLAW_283 : decode code 283 = .ok (.iadd, 1) := by decide +kernel
theorem dLAW_284 : decode code 284 = .ok (.iaload, 1) := by decide +kernel
theorem dLAW_285 : decode code 285 = .ok (.aload_n 0, 1) := by decide +kernel
theorem dLAW_286 : decode code 286 = .ok (.iload 4, 2) := by decide +kernel
theorem dLAW_288 : decode code 288 = .ok (.iconst 4, 1) := by decide +kernel
theorem dLAW_289 : decode code 289 = .ok (.iadd, 1) := by decide +kernel
theorem dLAW_290 : decode code 290 = .ok (.iaload, 1) := by decide +kernel
theorem dLAW_291 : decode code 291 = .ok (.invokevirtual 65, 3) := by decide +kernel
theorem dLAW_294 : decode code 294 = .ok (.istore 6, 2) := by decide +kernel
theorem dLAW_296 : decode code 296 = .ok (.aload_n 2, 1) := by decide +kernel
theorem dLAW_297 : decode code 297 = .ok (.invokevirtual 66, 3) := by decide +kernel
theorem dLAW_300 : decode code 300 = .ok (.iload 5, 2) := by decide +kernel
theorem dLAW_302 : decode code 302 = .ok (.if_icmp .eq 5, 3) := by decide +kernel
theorem dLAW_305 : decode code 305 = .ok (.iconst 0, 1) := by decide +kernel
theorem dLAW_306 : decode code 306 = .ok (.ireturn, 1) := by decide +kernel
theorem dLAW_307 : decode code 307 = .ok (.iload 5, 2) := by decide +kernel
theorem dLAW_309 : decode code 309 = .ok (.ifCond .ne 15, 3) := by decide +kernel
theorem dLAW_312 : decode code 312 = .ok (.aload_n 3, 1) := by decide +kernel
theorem dLAW_313 : decode code 313 = .ok (.iconst 0, 1) := by decide +kernel
theorem dLAW_314 : decode code 314 = .ok (.laload, 1) := by decide +kernel
theorem dLAW_315 : decode code 315 = .ok (.iload 6, 2) := by decide +kernel
theorem dLAW_317 : decode code 317 = .ok (.i2l, 1) := by decide +kernel
theorem dLAW_318 : decode code 318 = .ok (.lcmp, 1) := by decide +kernel
theorem dLAW_319 : decode code 319 = .ok (.ifCond .eq 5, 3) := by decide +kernel
theorem dLAW_322 : decode code 322 = .ok (.iconst 0, 1) := by decide +kernel
theorem dLAW_323 : decode code 323 = .ok (.ireturn, 1) := by decide +kernel
theorem dLAW_324 : decode code 324 = .ok (.goto 446, 3) := by decide +kernel
theorem dLAW_327 : decode code 327 = .ok (.aload_n 1, 1) := by decide +kernel
theorem dLAW_328 : decode code 328 = .ok (.aload_n 0, 1) := by decide +kernel
theorem dLAW_329 : decode code 329 = .ok (.iload 4, 2) := by decide +kernel
theorem dLAW_331 : decode code 331 = .ok (.iconst 1, 1) := by decide +kernel
theorem dLAW_332 : decode code 332 = .ok (.iadd, 1) := by decide +kernel
theorem dLAW_333 : decode code 333 = .ok (.iaload, 1) := by decide +kernel
theorem dLAW_334 : decode code 334 = .ok (.aload_n 0, 1) := by decide +kernel
theorem dLAW_335 : decode code 335 = .ok (.iload 4, 2) := by decide +kernel
theorem dLAW_337 : decode code 337 = .ok (.iconst 2, 1) := by decide +kernel
theorem dLAW_338 : decode code 338 = .ok (.iadd, 1) := by decide +kernel
theorem dLAW_339 : decode code 339 = .ok (.iaload, 1) := by decide +kernel
theorem dLAW_340 : decode code 340 = .ok (.aload_n 0, 1) := by decide +kernel
theorem dLAW_341 : decode code 341 = .ok (.iload 4, 2) := by decide +kernel
theorem dLAW_343 : decode code 343 = .ok (.iconst 3, 1) := by decide +kernel
theorem dLAW_344 : decode code 344 = .ok (.iadd, 1) := by decide +kernel
theorem dLAW_345 : decode code 345 = .ok (.iaload, 1) := by decide +kernel
theorem dLAW_346 : decode code 346 = .ok (.i2l, 1) := by decide +kernel
theorem dLAW_347 : decode code 347 = .ok (.bipush 32, 2) := by decide +kernel
theorem dLAW_349 : decode code 349 = .ok (.lshl, 1) := by decide +kernel
theorem dLAW_350 : decode code 350 = .ok (.aload_n 0, 1) := by decide +kernel
theorem dLAW_351 : decode code 351 = .ok (.iload 4, 2) := by decide +kernel
theorem dLAW_353 : decode code 353 = .ok (.iconst 4, 1) := by decide +kernel
theorem dLAW_354 : decode code 354 = .ok (.iadd, 1) := by decide +kernel
theorem dLAW_355 : decode code 355 = .ok (.iaload, 1) := by decide +kernel
theorem dLAW_356 : decode code 356 = .ok (.i2l, 1) := by decide +kernel
theorem dLAW_357 : decode code 357 = .ok (.ldc2_w 69, 3) := by decide +kernel
theorem dLAW_360 : decode code 360 = .ok (.land, 1) := by decide +kernel
theorem dLAW_361 : decode code 361 = .ok (.lor, 1) := by decide +kernel
theorem dLAW_362 : decode code 362 = .ok (.aload_n 3, 1) := by decide +kernel
theorem dLAW_363 : decode code 363 = .ok (.invokestatic 71, 3) := by decide +kernel
theorem dLAW_366 : decode code 366 = .ok (.istore 5, 2) := by decide +kernel
theorem dLAW_368 : decode code 368 = .ok (.aload_n 2, 1) := by decide +kernel
theorem dLAW_369 : decode code 369 = .ok (.aload_n 0, 1) := by decide +kernel
theorem dLAW_370 : decode code 370 = .ok (.iload 4, 2) := by decide +kernel
theorem dLAW_372 : decode code 372 = .ok (.iconst 1, 1) := by decide +kernel
theorem dLAW_373 : decode code 373 = .ok (.iadd, 1) := by decide +kernel
theorem dLAW_374 : decode code 374 = .ok (.iaload, 1) := by decide +kernel
theorem dLAW_375 : decode code 375 = .ok (.aload_n 0, 1) := by decide +kernel
theorem dLAW_376 : decode code 376 = .ok (.iload 4, 2) := by decide +kernel
theorem dLAW_378 : decode code 378 = .ok (.iconst 2, 1) := by decide +kernel
theorem dLAW_379 : decode code 379 = .ok (.iadd, 1) := by decide +kernel
theorem dLAW_380 : decode code 380 = .ok (.iaload, 1) := by decide +kernel
theorem dLAW_381 : decode code 381 = .ok (.aload_n 0, 1) := by decide +kernel
theorem dLAW_382 : decode code 382 = .ok (.iload 4, 2) := by decide +kernel
theorem dLAW_384 : decode code 384 = .ok (.iconst 3, 1) := by decide +kernel
theorem dLAW_385 : decode code 385 = .ok (.iadd, 1) := by decide +kernel
theorem dLAW_386 : decode code 386 = .ok (.iaload, 1) := by decide +kernel
theorem dLAW_387 : decode code 387 = .ok (.i2l, 1) := by decide +kernel
theorem dLAW_388 : decode code 388 = .ok (.bipush 32, 2) := by decide +kernel
theorem dLAW_390 : decode code 390 = .ok (.lshl, 1) := by decide +kernel
theorem dLAW_391 : decode code 391 = .ok (.aload_n 0, 1) := by decide +kernel
theorem dLAW_392 : decode code 392 = .ok (.iload 4, 2) := by decide +kernel
theorem dLAW_394 : decode code 394 = .ok (.iconst 4, 1) := by decide +kernel
theorem dLAW_395 : decode code 395 = .ok (.iadd, 1) := by decide +kernel
theorem dLAW_396 : decode code 396 = .ok (.iaload, 1) := by decide +kernel
theorem dLAW_397 : decode code 397 = .ok (.i2l, 1) := by decide +kernel
theorem dLAW_398 : decode code 398 = .ok (.ldc2_w 69, 3) := by decide +kernel
theorem dLAW_401 : decode code 401 = .ok (.land, 1) := by decide +kernel
theorem dLAW_402 : decode code 402 = .ok (.lor, 1) := by decide +kernel
theorem dLAW_403 : decode code 403 = .ok (.invokevirtual 74, 3) := by decide +kernel
theorem dLAW_406 : decode code 406 = .ok (.istore 6, 2) := by decide +kernel
theorem dLAW_408 : decode code 408 = .ok (.aload_n 2, 1) := by decide +kernel
theorem dLAW_409 : decode code 409 = .ok (.invokevirtual 66, 3) := by decide +kernel
theorem dLAW_412 : decode code 412 = .ok (.iload 5, 2) := by decide +kernel
theorem dLAW_414 : decode code 414 = .ok (.if_icmp .eq 5, 3) := by decide +kernel
theorem dLAW_417 : decode code 417 = .ok (.iconst 0, 1) := by decide +kernel
theorem dLAW_418 : decode code 418 = .ok (.ireturn, 1) := by decide +kernel
theorem dLAW_419 : decode code 419 = .ok (.iload 5, 2) := by decide +kernel
theorem dLAW_421 : decode code 421 = .ok (.ifCond .ne 15, 3) := by decide +kernel
theorem dLAW_424 : decode code 424 = .ok (.aload_n 3, 1) := by decide +kernel
theorem dLAW_425 : decode code 425 = .ok (.iconst 0, 1) := by decide +kernel
theorem dLAW_426 : decode code 426 = .ok (.laload, 1) := by decide +kernel
theorem dLAW_427 : decode code 427 = .ok (.iload 6, 2) := by decide +kernel
theorem dLAW_429 : decode code 429 = .ok (.i2l, 1) := by decide +kernel
theorem dLAW_430 : decode code 430 = .ok (.lcmp, 1) := by decide +kernel
theorem dLAW_431 : decode code 431 = .ok (.ifCond .eq 5, 3) := by decide +kernel
theorem dLAW_434 : decode code 434 = .ok (.iconst 0, 1) := by decide +kernel
theorem dLAW_435 : decode code 435 = .ok (.ireturn, 1) := by decide +kernel
theorem dLAW_436 : decode code 436 = .ok (.goto 334, 3) := by decide +kernel
theorem dLAW_439 : decode code 439 = .ok (.aload_n 1, 1) := by decide +kernel
theorem dLAW_440 : decode code 440 = .ok (.aload_n 0, 1) := by decide +kernel
theorem dLAW_441 : decode code 441 = .ok (.iload 4, 2) := by decide +kernel
theorem dLAW_443 : decode code 443 = .ok (.iconst 1, 1) := by decide +kernel
theorem dLAW_444 : decode code 444 = .ok (.iadd, 1) := by decide +kernel
theorem dLAW_445 : decode code 445 = .ok (.iaload, 1) := by decide +kernel
theorem dLAW_446 : decode code 446 = .ok (.aload_n 3, 1) := by decide +kernel
theorem dLAW_447 : decode code 447 = .ok (.invokestatic 75, 3) := by decide +kernel
theorem dLAW_450 : decode code 450 = .ok (.istore 5, 2) := by decide +kernel
theorem dLAW_452 : decode code 452 = .ok (.aload_n 2, 1) := by decide +kernel
theorem dLAW_453 : decode code 453 = .ok (.aload_n 0, 1) := by decide +kernel
theorem dLAW_454 : decode code 454 = .ok (.iload 4, 2) := by decide +kernel
theorem dLAW_456 : decode code 456 = .ok (.iconst 1, 1) := by decide +kernel
theorem dLAW_457 : decode code 457 = .ok (.iadd, 1) := by decide +kernel
theorem dLAW_458 : decode code 458 = .ok (.iaload, 1) := by decide +kernel
theorem dLAW_459 : decode code 459 = .ok (.invokevirtual 78, 3) := by decide +kernel
theorem dLAW_462 : decode code 462 = .ok (.istore 6, 2) := by decide +kernel
theorem dLAW_464 : decode code 464 = .ok (.aload_n 2, 1) := by decide +kernel
theorem dLAW_465 : decode code 465 = .ok (.invokevirtual 66, 3) := by decide +kernel
theorem dLAW_468 : decode code 468 = .ok (.iload 5, 2) := by decide +kernel
theorem dLAW_470 : decode code 470 = .ok (.if_icmp .eq 5, 3) := by decide +kernel
theorem dLAW_473 : decode code 473 = .ok (.iconst 0, 1) := by decide +kernel
theorem dLAW_474 : decode code 474 = .ok (.ireturn, 1) := by decide +kernel
theorem dLAW_475 : decode code 475 = .ok (.iload 5, 2) := by decide +kernel
theorem dLAW_477 : decode code 477 = .ok (.ifCond .ne 15, 3) := by decide +kernel
theorem dLAW_480 : decode code 480 = .ok (.aload_n 3, 1) := by decide +kernel
theorem dLAW_481 : decode code 481 = .ok (.iconst 0, 1) := by decide +kernel
theorem dLAW_482 : decode code 482 = .ok (.laload, 1) := by decide +kernel
theorem dLAW_483 : decode code 483 = .ok (.iload 6, 2) := by decide +kernel
theorem dLAW_485 : decode code 485 = .ok (.i2l, 1) := by decide +kernel
theorem dLAW_486 : decode code 486 = .ok (.lcmp, 1) := by decide +kernel
theorem dLAW_487 : decode code 487 = .ok (.ifCond .eq 5, 3) := by decide +kernel
theorem dLAW_490 : decode code 490 = .ok (.iconst 0, 1) := by decide +kernel
theorem dLAW_491 : decode code 491 = .ok (.ireturn, 1) := by decide +kernel
theorem dLAW_492 : decode code 492 = .ok (.goto 278, 3) := by decide +kernel
theorem dLAW_495 : decode code 495 = .ok (.aload_n 1, 1) := by decide +kernel
theorem dLAW_496 : decode code 496 = .ok (.aload_n 0, 1) := by decide +kernel
theorem dLAW_497 : decode code 497 = .ok (.iload 4, 2) := by decide +kernel
theorem dLAW_499 : decode code 499 = .ok (.iconst 1, 1) := by decide +kernel
theorem dLAW_500 : decode code 500 = .ok (.iadd, 1) := by decide +kernel
theorem dLAW_501 : decode code 501 = .ok (.iaload, 1) := by decide +kernel
theorem dLAW_502 : decode code 502 = .ok (.aload_n 0, 1) := by decide +kernel
theorem dLAW_503 : decode code 503 = .ok (.iload 4, 2) := by decide +kernel
theorem dLAW_505 : decode code 505 = .ok (.iconst 2, 1) := by decide +kernel
theorem dLAW_506 : decode code 506 = .ok (.iadd, 1) := by decide +kernel
theorem dLAW_507 : decode code 507 = .ok (.iaload, 1) := by decide +kernel
theorem dLAW_508 : decode code 508 = .ok (.aload_n 0, 1) := by decide +kernel
theorem dLAW_509 : decode code 509 = .ok (.iload 4, 2) := by decide +kernel
theorem dLAW_511 : decode code 511 = .ok (.iconst 3, 1) := by decide +kernel
theorem dLAW_512 : decode code 512 = .ok (.iadd, 1) := by decide +kernel
theorem dLAW_513 : decode code 513 = .ok (.iaload, 1) := by decide +kernel
theorem dLAW_514 : decode code 514 = .ok (.invokevirtual 79, 3) := by decide +kernel
theorem dLAW_517 : decode code 517 = .ok (.aload_n 2, 1) := by decide +kernel
theorem dLAW_518 : decode code 518 = .ok (.aload_n 0, 1) := by decide +kernel
theorem dLAW_519 : decode code 519 = .ok (.iload 4, 2) := by decide +kernel
theorem dLAW_521 : decode code 521 = .ok (.iconst 1, 1) := by decide +kernel
theorem dLAW_522 : decode code 522 = .ok (.iadd, 1) := by decide +kernel
theorem dLAW_523 : decode code 523 = .ok (.iaload, 1) := by decide +kernel
theorem dLAW_524 : decode code 524 = .ok (.aload_n 0, 1) := by decide +kernel
theorem dLAW_525 : decode code 525 = .ok (.iload 4, 2) := by decide +kernel
theorem dLAW_527 : decode code 527 = .ok (.iconst 2, 1) := by decide +kernel
theorem dLAW_528 : decode code 528 = .ok (.iadd, 1) := by decide +kernel
theorem dLAW_529 : decode code 529 = .ok (.iaload, 1) := by decide +kernel
theorem dLAW_530 : decode code 530 = .ok (.aload_n 0, 1) := by decide +kernel
theorem dLAW_531 : decode code 531 = .ok (.iload 4, 2) := by decide +kernel
theorem dLAW_533 : decode code 533 = .ok (.iconst 3, 1) := by decide +kernel
theorem dLAW_534 : decode code 534 = .ok (.iadd, 1) := by decide +kernel
theorem dLAW_535 : decode code 535 = .ok (.iaload, 1) := by decide +kernel
theorem dLAW_536 : decode code 536 = .ok (.invokevirtual 82, 3) := by decide +kernel
theorem dLAW_539 : decode code 539 = .ok (.if_icmp .eq 231, 3) := by decide +kernel
theorem dLAW_542 : decode code 542 = .ok (.iconst 0, 1) := by decide +kernel
theorem dLAW_543 : decode code 543 = .ok (.ireturn, 1) := by decide +kernel
theorem dLAW_544 : decode code 544 = .ok (.aload_n 1, 1) := by decide +kernel
theorem dLAW_545 : decode code 545 = .ok (.aload_n 0, 1) := by decide +kernel
theorem dLAW_546 : decode code 546 = .ok (.iload 4, 2) := by decide +kernel
theorem dLAW_548 : decode code 548 = .ok (.iconst 1, 1) := by decide +kernel
theorem dLAW_549 : decode code 549 = .ok (.iadd, 1) := by decide +kernel
theorem dLAW_550 : decode code 550 = .ok (.iaload, 1) := by decide +kernel
theorem dLAW_551 : decode code 551 = .ok (.aload_n 0, 1) := by decide +kernel
theorem dLAW_552 : decode code 552 = .ok (.iload 4, 2) := by decide +kernel
theorem dLAW_554 : decode code 554 = .ok (.iconst 2, 1) := by decide +kernel
theorem dLAW_555 : decode code 555 = .ok (.iadd, 1) := by decide +kernel
theorem dLAW_556 : decode code 556 = .ok (.iaload, 1) := by decide +kernel
theorem dLAW_557 : decode code 557 = .ok (.invokevirtual 83, 3) := by decide +kernel
theorem dLAW_560 : decode code 560 = .ok (.aload_n 2, 1) := by decide +kernel
theorem dLAW_561 : decode code 561 = .ok (.aload_n 0, 1) := by decide +kernel
theorem dLAW_562 : decode code 562 = .ok (.iload 4, 2) := by decide +kernel
theorem dLAW_564 : decode code 564 = .ok (.iconst 1, 1) := by decide +kernel
theorem dLAW_565 : decode code 565 = .ok (.iadd, 1) := by decide +kernel
theorem dLAW_566 : decode code 566 = .ok (.iaload, 1) := by decide +kernel
theorem dLAW_567 : decode code 567 = .ok (.aload_n 0, 1) := by decide +kernel
theorem dLAW_568 : decode code 568 = .ok (.iload 4, 2) := by decide +kernel
theorem dLAW_570 : decode code 570 = .ok (.iconst 2, 1) := by decide +kernel
theorem dLAW_571 : decode code 571 = .ok (.iadd, 1) := by decide +kernel
theorem dLAW_572 : decode code 572 = .ok (.iaload, 1) := by decide +kernel
theorem dLAW_573 : decode code 573 = .ok (.invokevirtual 87, 3) := by decide +kernel
theorem dLAW_576 : decode code 576 = .ok (.if_icmp .eq 194, 3) := by decide +kernel
theorem dLAW_579 : decode code 579 = .ok (.iconst 0, 1) := by decide +kernel
theorem dLAW_580 : decode code 580 = .ok (.ireturn, 1) := by decide +kernel
theorem dLAW_581 : decode code 581 = .ok (.aload_n 1, 1) := by decide +kernel
theorem dLAW_582 : decode code 582 = .ok (.aload_n 0, 1) := by decide +kernel
theorem dLAW_583 : decode code 583 = .ok (.iload 4, 2) := by decide +kernel
theorem dLAW_585 : decode code 585 = .ok (.iconst 1, 1) := by decide +kernel
theorem dLAW_586 : decode code 586 = .ok (.iadd, 1) := by decide +kernel
theorem dLAW_587 : decode code 587 = .ok (.iaload, 1) := by decide +kernel
theorem dLAW_588 : decode code 588 = .ok (.aload_n 0, 1) := by decide +kernel
theorem dLAW_589 : decode code 589 = .ok (.iload 4, 2) := by decide +kernel
theorem dLAW_591 : decode code 591 = .ok (.iconst 2, 1) := by decide +kernel
theorem dLAW_592 : decode code 592 = .ok (.iadd, 1) := by decide +kernel
theorem dLAW_593 : decode code 593 = .ok (.iaload, 1) := by decide +kernel
theorem dLAW_594 : decode code 594 = .ok (.ifCond .eq 7, 3) := by decide +kernel
theorem dLAW_597 : decode code 597 = .ok (.iconst 1, 1) := by decide +kernel
theorem dLAW_598 : decode code 598 = .ok (.goto 4, 3) := by decide +kernel
theorem dLAW_601 : decode code 601 = .ok (.iconst 0, 1) := by decide +kernel
theorem dLAW_602 : decode code 602 = .ok (.aload_n 0, 1) := by decide +kernel
theorem dLAW_603 : decode code 603 = .ok (.iload 4, 2) := by decide +kernel
theorem dLAW_605 : decode code 605 = .ok (.iconst 3, 1) := by decide +kernel
theorem dLAW_606 : decode code 606 = .ok (.iadd, 1) := by decide +kernel
theorem dLAW_607 : decode code 607 = .ok (.iaload, 1) := by decide +kernel
theorem dLAW_608 : decode code 608 = .ok (.aload_n 3, 1) := by decide +kernel
theorem dLAW_609 : decode code 609 = .ok (.invokestatic 88, 3) := by decide +kernel
theorem dLAW_612 : decode code 612 = .ok (.istore 5, 2) := by decide +kernel
theorem dLAW_614 : decode code 614 = .ok (.aload_n 2, 1) := by decide +kernel
theorem dLAW_615 : decode code 615 = .ok (.aload_n 0, 1) := by decide +kernel
theorem dLAW_616 : decode code 616 = .ok (.iload 4, 2) := by decide +kernel
theorem dLAW_618 : decode code 618 = .ok (.iconst 1, 1) := by decide +kernel
theorem dLAW_619 : decode code 619 = .ok (.iadd, 1) := by decide +kernel
theorem dLAW_620 : decode code 620 = .ok (.iaload, 1) := by decide +kernel
theorem dLAW_621 : decode code 621 = .ok (.aload_n 0, 1) := by decide +kernel
theorem dLAW_622 : decode code 622 = .ok (.iload 4, 2) := by decide +kernel
theorem dLAW_624 : decode code 624 = .ok (.iconst 2, 1) := by decide +kernel
theorem dLAW_625 : decode code 625 = .ok (.iadd, 1) := by decide +kernel
theorem dLAW_626 : decode code 626 = .ok (.iaload, 1) := by decide +kernel
theorem dLAW_627 : decode code 627 = .ok (.ifCond .eq 7, 3) := by decide +kernel
theorem dLAW_630 : decode code 630 = .ok (.iconst 1, 1) := by decide +kernel
theorem dLAW_631 : decode code 631 = .ok (.goto 4, 3) := by decide +kernel
theorem dLAW_634 : decode code 634 = .ok (.iconst 0, 1) := by decide +kernel
theorem dLAW_635 : decode code 635 = .ok (.aload_n 0, 1) := by decide +kernel
theorem dLAW_636 : decode code 636 = .ok (.iload 4, 2) := by decide +kernel
theorem dLAW_638 : decode code 638 = .ok (.iconst 3, 1) := by decide +kernel
theorem dLAW_639 : decode code 639 = .ok (.iadd, 1) := by decide +kernel
theorem dLAW_640 : decode code 640 = .ok (.iaload, 1) := by decide +kernel
theorem dLAW_641 : decode code 641 = .ok (.invokevirtual 91, 3) := by decide +kernel
theorem dLAW_644 : decode code 644 = .ok (.istore 6, 2) := by decide +kernel
theorem dLAW_646 : decode code 646 = .ok (.aload_n 2, 1) := by decide +kernel
theorem dLAW_647 : decode code 647 = .ok (.invokevirtual 66, 3) := by decide +kernel
theorem dLAW_650 : decode code 650 = .ok (.iload 5, 2) := by decide +kernel
theorem dLAW_652 : decode code 652 = .ok (.if_icmp .eq 5, 3) := by decide +kernel
theorem dLAW_655 : decode code 655 = .ok (.iconst 0, 1) := by decide +kernel
theorem dLAW_656 : decode code 656 = .ok (.ireturn, 1) := by decide +kernel
theorem dLAW_657 : decode code 657 = .ok (.iload 5, 2) := by decide +kernel
theorem dLAW_659 : decode code 659 = .ok (.ifCond .ne 15, 3) := by decide +kernel
theorem dLAW_662 : decode code 662 = .ok (.aload_n 3, 1) := by decide +kernel
theorem dLAW_663 : decode code 663 = .ok (.iconst 0, 1) := by decide +kernel
theorem dLAW_664 : decode code 664 = .ok (.laload, 1) := by decide +kernel
theorem dLAW_665 : decode code 665 = .ok (.iload 6, 2) := by decide +kernel
theorem dLAW_667 : decode code 667 = .ok (.i2l, 1) := by decide +kernel
theorem dLAW_668 : decode code 668 = .ok (.lcmp, 1) := by decide +kernel
theorem dLAW_669 : decode code 669 = .ok (.ifCond .eq 5, 3) := by decide +kernel
theorem dLAW_672 : decode code 672 = .ok (.iconst 0, 1) := by decide +kernel
theorem dLAW_673 : decode code 673 = .ok (.ireturn, 1) := by decide +kernel
theorem dLAW_674 : decode code 674 = .ok (.goto 96, 3) := by decide +kernel
theorem dLAW_677 : decode code 677 = .ok (.aload_n 1, 1) := by decide +kernel
theorem dLAW_678 : decode code 678 = .ok (.aload_n 0, 1) := by decide +kernel
theorem dLAW_679 : decode code 679 = .ok (.iload 4, 2) := by decide +kernel
theorem dLAW_681 : decode code 681 = .ok (.iconst 1, 1) := by decide +kernel
theorem dLAW_682 : decode code 682 = .ok (.iadd, 1) := by decide +kernel
theorem dLAW_683 : decode code 683 = .ok (.iaload, 1) := by decide +kernel
theorem dLAW_684 : decode code 684 = .ok (.invokevirtual 92, 3) := by decide +kernel
theorem dLAW_687 : decode code 687 = .ok (.aload_n 2, 1) := by decide +kernel
theorem dLAW_688 : decode code 688 = .ok (.aload_n 0, 1) := by decide +kernel
theorem dLAW_689 : decode code 689 = .ok (.iload 4, 2) := by decide +kernel
theorem dLAW_691 : decode code 691 = .ok (.iconst 1, 1) := by decide +kernel
theorem dLAW_692 : decode code 692 = .ok (.iadd, 1) := by decide +kernel
theorem dLAW_693 : decode code 693 = .ok (.iaload, 1) := by decide +kernel
theorem dLAW_694 : decode code 694 = .ok (.invokevirtual 95, 3) := by decide +kernel
theorem dLAW_697 : decode code 697 = .ok (.if_icmp .eq 73, 3) := by decide +kernel
theorem dLAW_700 : decode code 700 = .ok (.iconst 0, 1) := by decide +kernel
theorem dLAW_701 : decode code 701 = .ok (.ireturn, 1) := by decide +kernel
theorem dLAW_702 : decode code 702 = .ok (.aload_n 1, 1) := by decide +kernel
theorem dLAW_703 : decode code 703 = .ok (.invokevirtual 96, 3) := by decide +kernel
theorem dLAW_706 : decode code 706 = .ok (.aload_n 2, 1) := by decide +kernel
theorem dLAW_707 : decode code 707 = .ok (.invokevirtual 99, 3) := by decide +kernel
theorem dLAW_710 : decode code 710 = .ok (.goto 60, 3) := by decide +kernel
theorem dLAW_713 : decode code 713 = .ok (.aload_n 1, 1) := by decide +kernel
theorem dLAW_714 : decode code 714 = .ok (.aload_n 3, 1) := by decide +kernel
theorem dLAW_715 : decode code 715 = .ok (.invokestatic 100, 3) := by decide +kernel
theorem dLAW_718 : decode code 718 = .ok (.istore 5, 2) := by decide +kernel
theorem dLAW_720 : decode code 720 = .ok (.aload_n 2, 1) := by decide +kernel
theorem dLAW_721 : decode code 721 = .ok (.invokevirtual 103, 3) := by decide +kernel
theorem dLAW_724 : decode code 724 = .ok (.istore 6, 2) := by decide +kernel
theorem dLAW_726 : decode code 726 = .ok (.aload_n 2, 1) := by decide +kernel
theorem dLAW_727 : decode code 727 = .ok (.invokevirtual 66, 3) := by decide +kernel
theorem dLAW_730 : decode code 730 = .ok (.iload 5, 2) := by decide +kernel
theorem dLAW_732 : decode code 732 = .ok (.if_icmp .eq 5, 3) := by decide +kernel
theorem dLAW_735 : decode code 735 = .ok (.iconst 0, 1) := by decide +kernel
theorem dLAW_736 : decode code 736 = .ok (.ireturn, 1) := by decide +kernel
theorem dLAW_737 : decode code 737 = .ok (.iload 5, 2) := by decide +kernel
theorem dLAW_739 : decode code 739 = .ok (.ifCond .ne 15, 3) := by decide +kernel
theorem dLAW_742 : decode code 742 = .ok (.aload_n 3, 1) := by decide +kernel
theorem dLAW_743 : decode code 743 = .ok (.iconst 0, 1) := by decide +kernel
theorem dLAW_744 : decode code 744 = .ok (.laload, 1) := by decide +kernel
theorem dLAW_745 : decode code 745 = .ok (.iload 6, 2) := by decide +kernel
theorem dLAW_747 : decode code 747 = .ok (.i2l, 1) := by decide +kernel
theorem dLAW_748 : decode code 748 = .ok (.lcmp, 1) := by decide +kernel
theorem dLAW_749 : decode code 749 = .ok (.ifCond .eq 5, 3) := by decide +kernel
theorem dLAW_752 : decode code 752 = .ok (.iconst 0, 1) := by decide +kernel
theorem dLAW_753 : decode code 753 = .ok (.ireturn, 1) := by decide +kernel
theorem dLAW_754 : decode code 754 = .ok (.goto 16, 3) := by decide +kernel
theorem dLAW_757 : decode code 757 = .ok (.aload_n 1, 1) := by decide +kernel
theorem dLAW_758 : decode code 758 = .ok (.invokevirtual 104, 3) := by decide +kernel
theorem dLAW_761 : decode code 761 = .ok (.aload_n 2, 1) := by decide +kernel
theorem dLAW_762 : decode code 762 = .ok (.invokevirtual 108, 3) := by decide +kernel
theorem dLAW_765 : decode code 765 = .ok (.if_icmp .eq 5, 3) := by decide +kernel
theorem dLAW_768 : decode code 768 = .ok (.iconst 0, 1) := by decide +kernel
theorem dLAW_769 : decode code 769 = .ok (.ireturn, 1) := by decide +kernel
theorem dLAW_770 : decode code 770 = .ok (.iinc 4 5, 3) := by decide +kernel
theorem dLAW_773 : decode code 773 = .ok (.goto (-730), 3) := by decide +kernel
theorem dLAW_776 : decode code 776 = .ok (.iconst 1, 1) := by decide +kernel
theorem dLAW_777 : decode code 777 = .ok (.ireturn, 1) := by decide +kernel
