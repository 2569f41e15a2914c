theorem dX9_places_151 : decode cX9_places 151 = .ok (.iconst 1, 1) := by decide +kernel
theorem dX9_places_152 : decode cX9_places 152 = .ok (.goto 4, 3) := by decide +kernel
theorem dX9_places_155 : decode cX9_places 155 = .ok (.iconst 0, 1) := by decide +kernel
theorem dX9_places_156 : decode cX9_places 156 = .ok (.ireturn, 1) := by decide +kernel
theorem dX9_places_157 : decode cX9_places 157 = .ok (.aload_n 0, 1) := by decide +kernel
theorem dX9_places_158 : decode cX9_places 158 = .ok (.invokevirtual 137, 3) := by decide +kernel
theorem dX9_places_161 : decode cX9_places 161 = .ok (.istore 4, 2) := by decide +kernel
theorem dX9_places_163 : decode cX9_places 163 = .ok (.iload 4, 2) := by decide +kernel
theorem dX9_places_165 : decode cX9_places 165 = .ok (.iconst (-1), 1) := by decide +kernel
theorem dX9_places_166 : decode cX9_places 166 = .ok (.if_icmp .ne 7, 3) := by decide +kernel
theorem dX9_places_169 : decode cX9_places 169 = .ok (.iconst (-1), 1) := by decide +kernel
theorem dX9_places_170 : decode cX9_places 170 = .ok (.goto 7, 3) := by decide +kernel
theorem dX9_places_173 : decode cX9_places 173 = .ok (.aload_n 0, 1) := by decide +kernel
theorem dX9_places_174 : decode cX9_places 174 = .ok (.invokevirtual 137, 3) := by decide +kernel
theorem dX9_places_177 : decode cX9_places 177 = .ok (.istore 5, 2) := by decide +kernel
theorem dX9_places_179 : decode cX9_places 179 = .ok (.iload 5, 2) := by decide +kernel
theorem dX9_places_181 : decode cX9_places 181 = .ok (.iconst (-1), 1) := by decide +kernel
theorem dX9_places_182 : decode cX9_places 182 = .ok (.if_icmp .eq 25, 3) := by decide +kernel
theorem dX9_places_185 : decode cX9_places 185 = .ok (.aload_n 0, 1) := by decide +kernel
theorem dX9_places_186 : decode cX9_places 186 = .ok (.iload 4, 2) := by decide +kernel
theorem dX9_places_188 : decode cX9_places 188 = .ok (.invokevirtual 147, 3) := by decide +kernel
theorem dX9_places_191 : decode cX9_places 191 = .ok (.ifCond .eq 16, 3) := by decide +kernel
theorem dX9_places_194 : decode cX9_places 194 = .ok (.aload_n 0, 1) := by decide +kernel
theorem dX9_places_195 : decode cX9_places 195 = .ok (.iload 5, 2) := by decide +kernel
theorem dX9_places_197 : decode cX9_places 197 = .ok (.invokevirtual 147, 3) := by decide +kernel
theorem dX9_places_200 : decode cX9_places 200 = .ok (.ifCond .eq 7, 3) := by decide +kernel
theorem dX9_places_203 : decode cX9_places 203 = .ok (.iconst 1, 1) := by decide +kernel
theorem dX9_places_204 : decode cX9_places 204 = .ok (.goto 4, 3) := by decide +kernel
theorem dX9_places_207 : decode cX9_places 207 = .ok (.iconst 0, 1) := by decide +kernel
theorem dX9_places_208 : decode cX9_places 208 = .ok (.ireturn, 1) := by decide +kernel
theorem dX9_fits_0 : decode cX9_fits 0 = .ok (.iload_n 2, 1) := by decide +kernel
theorem dX9_fits_1 : decode cX9_fits 1 = .ok (.ifCond .eq 9, 3) := by decide +kernel
theorem dX9_fits_4 : decode cX9_fits 4 = .ok (.iload_n 2, 1) := by decide +kernel
theorem dX9_fits_5 : decode cX9_fits 5 = .ok (.bipush 40, 2) := by decide +kernel
theorem dX9_fits_7 : decode cX9_fits 7 = .ok (.if_icmp .ne 9, 3) := by decide +kernel
theorem dX9_fits_10 : decode cX9_fits 10 = .ok (.aload_n 0, 1) := by decide +kernel
theorem dX9_fits_11 : decode cX9_fits 11 = .ok (.iconst 0, 1) := by decide +kernel
theorem dX9_fits_12 : decode cX9_fits 12 = .ok (.invokevirtual 147, 3) := by decide +kernel
theorem dX9_fits_15 : decode cX9_fits 15 = .ok (.ireturn, 1) := by decide +kernel
theorem dX9_fits_16 : decode cX9_fits 16 = .ok (.iload_n 2, 1) := by decide +kernel
theorem dX9_fits_17 : decode cX9_fits 17 = .ok (.iconst 1, 1) := by decide +kernel
theorem dX9_fits_18 : decode cX9_fits 18 = .ok (.if_icmp .ne 10, 3) := by decide +kernel
theorem dX9_fits_21 : decode cX9_fits 21 = .ok (.aload_n 0, 1) := by decide +kernel
theorem dX9_fits_22 : decode cX9_fits 22 = .ok (.bipush 97, 2) := by decide +kernel
theorem dX9_fits_24 : decode cX9_fits 24 = .ok (.invokevirtual 147, 3) := by decide +kernel
theorem dX9_fits_27 : decode cX9_fits 27 = .ok (.ireturn, 1) := by decide +kernel
theorem dX9_fits_28 : decode cX9_fits 28 = .ok (.iload_n 2, 1) := by decide +kernel
theorem dX9_fits_29 : decode cX9_fits 29 = .ok (.bipush 7, 2) := by decide +kernel
theorem dX9_fits_31 : decode cX9_fits 31 = .ok (.if_icmp .ge 11, 3) := by decide +kernel
theorem dX9_fits_34 : decode cX9_fits 34 = .ok (.aload_n 0, 1) := by decide +kernel
theorem dX9_fits_35 : decode cX9_fits 35 = .ok (.iload_n 1, 1) := by decide +kernel
theorem dX9_fits_36 : decode cX9_fits 36 = .ok (.iload_n 2, 1) := by decide +kernel
theorem dX9_fits_37 : decode cX9_fits 37 = .ok (.iload_n 3, 1) := by decide +kernel
theorem dX9_fits_38 : decode cX9_fits 38 = .ok (.invokevirtual 156, 3) := by decide +kernel
theorem dX9_fits_41 : decode cX9_fits 41 = .ok (.ireturn, 1) := by decide +kernel
theorem dX9_fits_42 : decode cX9_fits 42 = .ok (.iload_n 2, 1) := by decide +kernel
theorem dX9_fits_43 : decode cX9_fits 43 = .ok (.bipush 19, 2) := by decide +kernel
theorem dX9_fits_45 : decode cX9_fits 45 = .ok (.if_icmp .ge 35, 3) := by decide +kernel
theorem dX9_fits_48 : decode cX9_fits 48 = .ok (.aload_n 0, 1) := by decide +kernel
theorem dX9_fits_49 : decode cX9_fits 49 = .ok (.iload_n 2, 1) := by decide +kernel
theorem dX9_fits_50 : decode cX9_fits 50 = .ok (.bipush 18, 2) := by decide +kernel
theorem dX9_fits_52 : decode cX9_fits 52 = .ok (.if_icmp .ge 7, 3) := by decide +kernel
theorem dX9_fits_55 : decode cX9_fits 55 = .ok (.iconst 2, 1) := by decide +kernel
theorem dX9_fits_56 : decode cX9_fits 56 = .ok (.goto 4, 3) := by decide +kernel
theorem dX9_fits_59 : decode cX9_fits 59 = .ok (.iconst 1, 1) := by decide +kernel
theorem dX9_fits_60 : decode cX9_fits 60 = .ok (.invokevirtual 150, 3) := by decide +kernel
theorem dX9_fits_63 : decode cX9_fits 63 = .ok (.ifCond .eq 15, 3) := by decide +kernel
theorem dX9_fits_66 : decode cX9_fits 66 = .ok (.aload_n 0, 1) := by decide +kernel
theorem dX9_fits_67 : decode cX9_fits 67 = .ok (.iconst 0, 1) := by decide +kernel
theorem dX9_fits_68 : decode cX9_fits 68 = .ok (.invokevirtual 147, 3) := by decide +kernel
theorem dX9_fits_71 : decode cX9_fits 71 = .ok (.ifCond .eq 7, 3) := by decide +kernel
theorem dX9_fits_74 : decode cX9_fits 74 = .ok (.iconst 1, 1) := by decide +kernel
theorem dX9_fits_75 : decode cX9_fits 75 = .ok (.goto 4, 3) := by decide +kernel
theorem dX9_fits_78 : decode cX9_fits 78 = .ok (.iconst 0, 1) := by decide +kernel
theorem dX9_fits_79 : decode cX9_fits 79 = .ok (.ireturn, 1) := by decide +kernel
theorem dX9_fits_80 : decode cX9_fits 80 = .ok (.iload_n 2, 1) := by decide +kernel
theorem dX9_fits_81 : decode cX9_fits 81 = .ok (.tableswitch 416 19 41 #[107, 113, 119, 119, 124, 124, 144, 146, 154, 189, 224, 245, 416, 416, 416, 416, 268, 291, 346, 361, 389, 416, 107], 107) := by decide +kernel
theorem dX9_fits_188 : decode cX9_fits 188 = .ok (.aload_n 0, 1) := by decide +kernel
theorem dX9_fits_189 : decode cX9_fits 189 = .ok (.iconst 1, 1) := by decide +kernel
theorem dX9_fits_190 : decode cX9_fits 190 = .ok (.invokevirtual 150, 3) := by decide +kernel
theorem dX9_fits_193 : decode cX9_fits 193 = .ok (.ireturn, 1) := by decide +kernel
theorem dX9_fits_194 : decode cX9_fits 194 = .ok (.aload_n 0, 1) := by decide +kernel
theorem dX9_fits_195 : decode cX9_fits 195 = .ok (.iconst 2, 1) := by decide +kernel
theorem dX9_fits_196 : decode cX9_fits 196 = .ok (.invokevirtual 150, 3) := by decide +kernel
theorem dX9_fits_199 : decode cX9_fits 199 = .ok (.ireturn, 1) := by decide +kernel
theorem dX9_fits_200 : decode cX9_fits 200 = .ok (.aload_n 0, 1) := by decide +kernel
theorem dX9_fits_201 : decode cX9_fits 201 = .ok (.invokevirtual 160, 3) := by decide +kernel
theorem dX9_fits_204 : decode cX9_fits 204 = .ok (.ireturn, 1) := by decide +kernel
theorem dX9_fits_205 : decode cX9_fits 205 = .ok (.aload_n 0, 1) := by decide +kernel
theorem dX9_fits_206 : decode cX9_fits 206 = .ok (.invokevirtual 160, 3) := by decide +kernel
theorem dX9_fits_209 : decode cX9_fits 209 = .ok (.ifCond .eq 14, 3) := by decide +kernel
theorem dX9_fits_212 : decode cX9_fits 212 = .ok (.aload_n 0, 1) := by decide +kernel
theorem dX9_fits_213 : decode cX9_fits 213 = .ok (.invokevirtual 160, 3) := by decide +kernel
theorem dX9_fits_216 : decode cX9_fits 216 = .ok (.ifCond .eq 7, 3) := by decide +kernel
theorem dX9_fits_219 : decode cX9_fits 219 = .ok (.iconst 1, 1) := by decide +kernel
theorem dX9_fits_220 : decode cX9_fits 220 = .ok (.goto 4, 3) := by decide +kernel
theorem dX9_fits_223 : decode cX9_fits 223 = .ok (.iconst 0, 1) := by decide +kernel
theorem dX9_fits_224 : decode cX9_fits 224 = .ok (.ireturn, 1) := by decide +kernel
theorem dX9_fits_225 : decode cX9_fits 225 = .ok (.iconst 1, 1) := by decide +kernel
theorem dX9_fits_226 : decode cX9_fits 226 = .ok (.ireturn, 1) := by decide +kernel
theorem dX9_fits_227 : decode cX9_fits 227 = .ok (.aload_n 0, 1) := by decide +kernel
theorem dX9_fits_228 : decode cX9_fits 228 = .ok (.iconst 1, 1) := by decide +kernel
theorem dX9_fits_229 : decode cX9_fits 229 = .ok (.iload_n 3, 1) := by decide +kernel
theorem dX9_fits_230 : decode cX9_fits 230 = .ok (.iadd, 1) := by decide +kernel
theorem dX9_fits_231 : decode cX9_fits 231 = .ok (.invokevirtual 147, 3) := by decide +kernel
theorem dX9_fits_234 : decode cX9_fits 234 = .ok (.ireturn, 1) := by decide +kernel
theorem dX9_fits_235 : decode cX9_fits 235 = .ok (.aload_n 0, 1) := by decide +kernel
theorem dX9_fits_236 : decode cX9_fits 236 = .ok (.iconst 1, 1) := by decide +kernel
theorem dX9_fits_237 : decode cX9_fits 237 = .ok (.iload_n 3, 1) := by decide +kernel
theorem dX9_fits_238 : decode cX9_fits 238 = .ok (.iadd, 1) := by decide +kernel
theorem dX9_fits_239 : decode cX9_fits 239 = .ok (.invokevirtual 144, 3) := by decide +kernel
theorem dX9_fits_242 : decode cX9_fits 242 = .ok (.ifCond .eq 26, 3) := by decide +kernel
theorem dX9_fits_245 : decode cX9_fits 245 = .ok (.aload_n 0, 1) := by decide +kernel
theorem dX9_fits_246 : decode cX9_fits 246 = .ok (.aload_n 0, 1) := by decide +kernel
theorem dX9_fits_247 : decode cX9_fits 247 = .ok (.getfield 20, 3) := by decide +kernel
theorem dX9_fits_250 : decode cX9_fits 250 = .ok (.bipush 15, 2) := by decide +kernel
theorem dX9_fits_252 : decode cX9_fits 252 = .ok (.iload_n 3, 1) := by decide +kernel
theorem dX9_fits_253 : decode cX9_fits 253 = .ok (.imul, 1) := by decide +kernel
theorem dX9_fits_254 : decode cX9_fits 254 = .ok (.iload 4, 2) := by decide +kernel
theorem dX9_fits_256 : decode cX9_fits 256 = .ok (.iadd, 1) := by decide +kernel
theorem dX9_fits_257 : decode cX9_fits 257 = .ok (.iaload, 1) := by decide +kernel
theorem dX9_fits_258 : decode cX9_fits 258 = .ok (.invokevirtual 147, 3) := by decide +kernel
theorem dX9_fits_261 : decode cX9_fits 261 = .ok (.ifCond .eq 7, 3) := by decide +kernel
theorem dX9_fits_264 : decode cX9_fits 264 = .ok (.iconst 1, 1) := by decide +kernel
theorem dX9_fits_265 : decode cX9_fits 265 = .ok (.goto 4, 3) := by decide +kernel
theorem dX9_fits_268 : decode cX9_fits 268 = .ok (.iconst 0, 1) := by decide +kernel
theorem dX9_fits_269 : decode cX9_fits 269 = .ok (.ireturn, 1) := by decide +kernel
theorem dX9_fits_270 : decode cX9_fits 270 = .ok (.aload_n 0, 1) := by decide +kernel
theorem dX9_fits_271 : decode cX9_fits 271 = .ok (.aload_n 0, 1) := by decide +kernel
theorem dX9_fits_272 : decode cX9_fits 272 = .ok (.getfield 20, 3) := by decide +kernel
theorem dX9_fits_275 : decode cX9_fits 275 = .ok (.bipush 15, 2) := by decide +kernel
theorem dX9_fits_277 : decode cX9_fits 277 = .ok (.iload_n 3, 1) := by decide +kernel
theorem dX9_fits_278 : decode cX9_fits 278 = .ok (.imul, 1) := by decide +kernel
theorem dX9_fits_279 : decode cX9_fits 279 = .ok (.iload 4, 2) := by decide +kernel
theorem dX9_fits_281 : decode cX9_fits 281 = .ok (.iadd, 1) := by decide +kernel
theorem dX9_fits_282 : decode cX9_fits 282 = .ok (.iaload, 1) := by decide +kernel
theorem dX9_fits_283 : decode cX9_fits 283 = .ok (.invokevirtual 144, 3) := by decide +kernel
theorem dX9_fits_286 : decode cX9_fits 286 = .ok (.ifCond .eq 17, 3) := by decide +kernel
theorem dX9_fits_289 : decode cX9_fits 289 = .ok (.aload_n 0, 1) := by decide +kernel
theorem dX9_fits_290 : decode cX9_fits 290 = .ok (.iconst 1, 1) := by decide +kernel
theorem dX9_fits_291 : decode cX9_fits 291 = .ok (.iload_n 3, 1) := by decide +kernel
theorem dX9_fits_292 : decode cX9_fits 292 = .ok (.iadd, 1) := by decide +kernel
theorem dX9_fits_293 : decode cX9_fits 293 = .ok (.invokevirtual 144, 3) := by decide +kernel
theorem dX9_fits_296 : decode cX9_fits 296 = .ok (.ifCond .eq 7, 3) := by decide +kernel
theorem dX9_fits_299 : decode cX9_fits 299 = .ok (.iconst 1, 1) := by decide +kernel
theorem dX9_fits_300 : decode cX9_fits 300 = .ok (.goto 4, 3) := by decide +kernel
theorem dX9_fits_303 : decode cX9_fits 303 = .ok (.iconst 0, 1) := by decide +kernel
theorem dX9_fits_304 : decode cX9_fits 304 = .ok (.ireturn, 1) := by decide +kernel
theorem dX9_fits_305 : decode cX9_fits 305 = .ok (.aload_n 0, 1) := by decide +kernel
theorem dX9_fits_306 : decode cX9_fits 306 = .ok (.invokevirtual 160, 3) := by decide +kernel
theorem dX9_fits_309 : decode cX9_fits 309 = .ok (.ifCond .eq 15, 3) := by decide +kernel
theorem dX9_fits_312 : decode cX9_fits 312 = .ok (.aload_n 0, 1) := by decide +kernel
theorem dX9_fits_313 : decode cX9_fits 313 = .ok (.iconst 0, 1) := by decide +kernel
theorem dX9_fits_314 : decode cX9_fits 314 = .ok (.invokevirtual 147, 3) := by decide +kernel
theorem dX9_fits_317 : decode cX9_fits 317 = .ok (.ifCond .eq 7, 3) := by decide +kernel
theorem dX9_fits_320 : decode cX9_fits 320 = .ok (.iconst 1, 1) := by decide +kernel
theorem dX9_fits_321 : decode cX9_fits 321 = .ok (.goto 4, 3) := by decide +kernel
theorem dX9_fits_324 : decode cX9_fits 324 = .ok (.iconst 0, 1) := by decide +kernel
theorem dX9_fits_325 : decode cX9_fits 325 = .ok (.ireturn, 1) := by decide +kernel
theorem dX9_fits_326 : decode cX9_fits 326 = .ok (.aload_n 0, 1) := by decide +kernel
theorem dX9_fits_327 : decode cX9_fits 327 = .ok (.invokevirtual 160, 3) := by decide +kernel
theorem dX9_fits_330 : decode cX9_fits 330 = .ok (.ifCond .eq 17, 3) := by decide +kernel
theorem dX9_fits_333 : decode cX9_fits 333 = .ok (.aload_n 0, 1) := by decide +kernel
theorem dX9_fits_334 : decode cX9_fits 334 = .ok (.iconst 1, 1) := by decide +kernel
theorem dX9_fits_335 : decode cX9_fits 335 = .ok (.iload_n 3, 1) := by decide +kernel
theorem dX9_fits_336 : decode cX9_fits 336 = .ok (.iadd, 1) := by decide +kernel
theorem dX9_fits_337 : decode cX9_fits 337 = .ok (.invokevirtual 147, 3) := by decide +kernel
theorem dX9_fits_340 : decode cX9_fits 340 = .ok (.ifCond .eq 7, 3) := by decide +kernel
theorem dX9_fits_343 : decode cX9_fits 343 = .ok (.iconst 1, 1) := by decide +kernel
theorem dX9_fits_344 : decode cX9_fits 344 = .ok (.goto 4, 3) := by decide +kernel
theorem dX9_fits_347 : decode cX9_fits 347 = .ok (.iconst 0, 1) := by decide +kernel
theorem dX9_fits_348 : decode cX9_fits 348 = .ok (.ireturn, 1) := by decide +kernel
theorem dX9_fits_349 : decode cX9_fits 349 = .ok (.aload_n 0, 1) := by decide +kernel
theorem dX9_fits_350 : decode cX9_fits 350 = .ok (.iload_n 3, 1) := by decide +kernel
theorem dX9_fits_351 : decode cX9_fits 351 = .ok (.iconst 0, 1) := by decide +kernel
theorem dX9_fits_352 : decode cX9_fits 352 = .ok (.invokevirtual 164, 3) := by decide +kernel
theorem dX9_fits_355 : decode cX9_fits 355 = .ok (.ifCond .eq 15, 3) := by decide +kernel
theorem dX9_fits_358 : decode cX9_fits 358 = .ok (.aload_n 0, 1) := by decide +kernel
theorem dX9_fits_359 : decode cX9_fits 359 = .ok (.iload_n 3, 1) := by decide +kernel
theorem dX9_fits_360 : decode cX9_fits 360 = .ok (.invokevirtual 167, 3) := by decide +kernel
theorem dX9_fits_363 : decode cX9_fits 363 = .ok (.ifCond .eq 7, 3) := by decide +kernel
theorem dX9_fits_366 : decode cX9_fits 366 = .ok (.iconst 1, 1) := by decide +kernel
theorem dX9_fits_367 : decode cX9_fits 367 = .ok (.goto 4, 3) := by decide +kernel
theorem dX9_fits_370 : decode cX9_fits 370 = .ok (.iconst 0, 1) := by decide +kernel
theorem dX9_fits_371 : decode cX9_fits 371 = .ok (.ireturn, 1) := by decide +kernel
theorem dX9_fits_372 : decode cX9_fits 372 = .ok (.aload_n 0, 1) := by decide +kernel
theorem dX9_fits_373 : decode cX9_fits 373 = .ok (.aload_n 0, 1) := by decide +kernel
theorem dX9_fits_374 : decode cX9_fits 374 = .ok (.getfield 23, 3) := by decide +kernel
theorem dX9_fits_377 : decode cX9_fits 377 = .ok (.bipush 16, 2) := by decide +kernel
theorem dX9_fits_379 : decode cX9_fits 379 = .ok (.iload_n 3, 1) := by decide +kernel
theorem dX9_fits_380 : decode cX9_fits 380 = .ok (.imul, 1) := by decide +kernel
theorem dX9_fits_381 : decode cX9_fits 381 = .ok (.iload 4, 2) := by decide +kernel
theorem dX9_fits_383 : decode cX9_fits 383 = .ok (.iadd, 1) := by decide +kernel
theorem dX9_fits_384 : decode cX9_fits 384 = .ok (.iaload, 1) := by decide +kernel
theorem dX9_fits_385 : decode cX9_fits 385 = .ok (.iconst 1, 1) := by decide +kernel
theorem dX9_fits_386 : decode cX9_fits 386 = .ok (.invokevirtual 164, 3) := by decide +kernel
theorem dX9_fits_389 : decode cX9_fits 389 = .ok (.ifCond .eq 36, 3) := by decide +kernel
theorem dX9_fits_392 : decode cX9_fits 392 = .ok (.aload_n 0, 1) := by decide +kernel
theorem dX9_fits_393 : decode cX9_fits 393 = .ok (.iconst 1, 1) := by decide +kernel
theorem dX9_fits_394 : decode cX9_fits 394 = .ok (.iload_n 3, 1) := by decide +kernel
theorem dX9_fits_395 : decode cX9_fits 395 = .ok (.iadd, 1) := by decide +kernel
theorem dX9_fits_396 : decode cX9_fits 396 = .ok (.invokevirtual 144, 3) := by decide +kernel
theorem dX9_fits_399 : decode cX9_fits 399 = .ok (.ifCond .eq 26, 3) := by decide +kernel
theorem dX9_fits_402 : decode cX9_fits 402 = .ok (.aload_n 0, 1) := by decide +kernel
theorem dX9_fits_403 : decode cX9_fits 403 = .ok (.aload_n 0, 1) := by decide +kernel
theorem dX9_fits_404 : decode cX9_fits 404 = .ok (.getfield 23, 3) := by decide +kernel
theorem dX9_fits_407 : decode cX9_fits 407 = .ok (.bipush 16, 2) := by decide +kernel
theorem dX9_fits_409 : decode cX9_fits 409 = .ok (.iload_n 3, 1) := by decide +kernel
theorem dX9_fits_410 : decode cX9_fits 410 = .ok (.imul, 1) := by decide +kernel
theorem dX9_fits_411 : decode cX9_fits 411 = .ok (.iload 4, 2) := by decide +kernel
theorem dX9_fits_413 : decode cX9_fits 413 = .ok (.iadd, 1) := by decide +kernel
theorem dX9_fits_414 : decode cX9_fits 414 = .ok (.iaload, 1) := by decide +kernel
theorem dX9_fits_415 : decode cX9_fits 415 = .ok (.invokevirtual 167, 3) := by decide +kernel
theorem dX9_fits_418 : decode cX9_fits 418 = .ok (.ifCond .eq 7, 3) := by decide +kernel
theorem dX9_fits_421 : decode cX9_fits 421 = .ok (.iconst 1, 1) := by decide +kernel
theorem dX9_fits_422 : decode cX9_fits 422 = .ok (.goto 4, 3) := by decide +kernel
theorem dX9_fits_425 : decode cX9_fits 425 = .ok (.iconst 0, 1) := by decide +kernel
theorem dX9_fits_426 : decode cX9_fits 426 = .ok (.ireturn, 1) := by decide +kernel
theorem dX9_fits_427 : decode cX9_fits 427 = .ok (.aload_n 0, 1) := by decide +kernel
theorem dX9_fits_428 : decode cX9_fits 428 = .ok (.getfield 29, 3) := by decide +kernel
theorem dX9_fits_431 : decode cX9_fits 431 = .ok (.iload_n 1, 1) := by decide +kernel
theorem dX9_fits_432 : decode cX9_fits 432 = .ok (.iaload, 1) := by decide +kernel
theorem dX9_fits_433 : decode cX9_fits 433 = .ok (.ifCond .ge 7, 3) := by decide +kernel
theorem dX9_fits_436 : decode cX9_fits 436 = .ok (.iconst 1, 1) := by decide +kernel
theorem dX9_fits_437 : decode cX9_fits 437 = .ok (.goto 4, 3) := by decide +kernel
theorem dX9_fits_440 : decode cX9_fits 440 = .ok (.iconst 0, 1) := by decide +kernel
theorem dX9_fits_441 : decode cX9_fits 441 = .ok (.ireturn, 1) := by decide +kernel
theorem dX9_fits_442 : decode cX9_fits 442 = .ok (.aload_n 0, 1) := by decide +kernel
theorem dX9_fits_443 : decode cX9_fits 443 = .ok (.getfield 29, 3) := by decide +kernel
theorem dX9_fits_446 : decode cX9_fits 446 = .ok (.iload_n 1, 1) := by decide +kernel
theorem dX9_fits_447 : decode cX9_fits 447 = .ok (.iaload, 1) := by decide +kernel
theorem dX9_fits_448 : decode cX9_fits 448 = .ok (.ifCond .lt 20, 3) := by decide +kernel
theorem dX9_fits_451 : decode cX9_fits 451 = .ok (.aload_n 0, 1) := by decide +kernel
theorem dX9_fits_452 : decode cX9_fits 452 = .ok (.aload_n 0, 1) := by decide +kernel
theorem dX9_fits_453 : decode cX9_fits 453 = .ok (.getfield 29, 3) := by decide +kernel
theorem dX9_fits_456 : decode cX9_fits 456 = .ok (.iload_n 1, 1) := by decide +kernel
theorem dX9_fits_457 : decode cX9_fits 457 = .ok (.iaload, 1) := by decide +kernel
theorem dX9_fits_458 : decode cX9_fits 458 = .ok (.invokevirtual 144, 3) := by decide +kernel
theorem dX9_fits_461 : decode cX9_fits 461 = .ok (.ifCond .eq 7, 3) := by decide +kernel
theorem dX9_fits_464 : decode cX9_fits 464 = .ok (.iconst 1, 1) := by decide +kernel
theorem dX9_fits_465 : decode cX9_fits 465 = .ok (.goto 4, 3) := by decide +kernel
theorem dX9_fits_468 : decode cX9_fits 468 = .ok (.iconst 0, 1) := by decide +kernel
theorem dX9_fits_469 : decode cX9_fits 469 = .ok (.ireturn, 1) := by decide +kernel
theorem dX9_fits_470 : decode cX9_fits 470 = .ok (.aload_n 0, 1) := by decide +kernel
theorem dX9_fits_471 : decode cX9_fits 471 = .ok (.invokevirtual 137, 3) := by decide +kernel
theorem dX9_fits_474 : decode cX9_fits 474 = .ok (.istore 5, 2) := by decide +kernel
theorem dX9_fits_476 : decode cX9_fits 476 = .ok (.iload 5, 2) := by decide +kernel
theorem dX9_fits_478 : decode cX9_fits 478 = .ok (.bipush 97, 2) := by decide +kernel
theorem dX9_fits_480 : decode cX9_fits 480 = .ok (.if_icmp .eq 11, 3) := by decide +kernel
theorem dX9_fits_483 : decode cX9_fits 483 = .ok (.iload 5, 2) := by decide +kernel
theorem dX9_fits_485 : decode cX9_fits 485 = .ok (.invokestatic 118, 3) := by decide +kernel
theorem dX9_fits_488 : decode cX9_fits 488 = .ok (.ifCond .eq 7, 3) := by decide +kernel
theorem dX9_fits_491 : decode cX9_fits 491 = .ok (.iconst 1, 1) := by decide +kernel
theorem dX9_fits_492 : decode cX9_fits 492 = .ok (.goto 4, 3) := by decide +kernel
theorem dX9_fits_495 : decode cX9_fits 495 = .ok (.iconst 0, 1) := by decide +kernel
theorem dX9_fits_496 : decode cX9_fits 496 = .ok (.ireturn, 1) := by decide +kernel
theorem dX9_fits_497 : decode cX9_fits 497 = .ok (.aload_n 0, 1) := by decide +kernel
theorem dX9_fits_498 : decode cX9_fits 498 = .ok (.iload_n 2, 1) := by decide +kernel
theorem dX9_fits_499 : decode cX9_fits 499 = .ok (.iload_n 3, 1) := by decide +kernel
theorem dX9_fits_500 : decode cX9_fits 500 = .ok (.invokevirtual 170, 3) := by decide +kernel
theorem dX9_fits_503 : decode cX9_fits 503 = .ok (.ireturn, 1) := by decide +kernel
theorem dX9_step_0 : decode cX9_step 0 = .ok (.sipush 200, 3) := by decide +kernel
theorem dX9_step_3 : decode cX9_step 3 = .ok (.iload_n 1, 1) := by decide +kernel
theorem dX9_step_4 : decode cX9_step 4 = .ok (.imul, 1) := by decide +kernel
theorem dX9_step_5 : decode cX9_step 5 = .ok (.iload_n 2, 1) := by decide +kernel
theorem dX9_step_6 : decode cX9_step 6 = .ok (.iadd, 1) := by decide +kernel
theorem dX9_step_7 : decode cX9_step 7 = .ok (.istore_n 3, 1) := by decide +kernel
theorem dX9_step_8 : decode cX9_step 8 = .ok (.aload_n 0, 1) := by decide +kernel
theorem dX9_step_9 : decode cX9_step 9 = .ok (.getfield 32, 3) := by decide +kernel
theorem dX9_step_12 : decode cX9_step 12 = .ok (.iload_n 1, 1) := by decide +kernel
theorem dX9_step_13 : decode cX9_step 13 = .ok (.iaload, 1) := by decide +kernel
theorem dX9_step_14 : decode cX9_step 14 = .ok (.istore 4, 2) := by decide +kernel
theorem dX9_step_16 : decode cX9_step 16 = .ok (.bipush 8, 2) := by decide +kernel
theorem dX9_step_18 : decode cX9_step 18 = .ok (.iload_n 1, 1) := by decide +kernel
theorem dX9_step_19 : decode cX9_step 19 = .ok (.imul, 1) := by decide +kernel
theorem dX9_step_20 : decode cX9_step 20 = .ok (.istore 5, 2) := by decide +kernel
theorem dX9_step_22 : decode cX9_step 22 = .ok (.iload 5, 2) := by decide +kernel
theorem dX9_step_24 : decode cX9_step 24 = .ok (.bipush 8, 2) := by decide +kernel
theorem dX9_step_26 : decode cX9_step 26 = .ok (.iload_n 1, 1) := by decide +kernel
theorem dX9_step_27 : decode cX9_step 27 = .ok (.imul, 1) := by decide +kernel
theorem dX9_step_28 : decode cX9_step 28 = .ok (.aload_n 0, 1) := by decide +kernel
theorem dX9_step_29 : decode cX9_step 29 = .ok (.getfield 59, 3) := by decide +kernel
theorem dX9_step_32 : decode cX9_step 32 = .ok (.iload_n 1, 1) := by decide +kernel
theorem dX9_step_33 : decode cX9_step 33 = .ok (.iaload, 1) := by decide +kernel
theorem dX9_step_34 : decode cX9_step 34 = .ok (.iadd, 1) := by decide +kernel
theorem dX9_step_35 : decode cX9_step 35 = .ok (.if_icmp .ge 75, 3) := by decide +kernel
theorem dX9_step_38 : decode cX9_step 38 = .ok (.aload_n 0, 1) := by decide +kernel
theorem dX9_step_39 : decode cX9_step 39 = .ok (.getfield 62, 3) := by decide +kernel
theorem dX9_step_42 : decode cX9_step 42 = .ok (.iload 5, 2) := by decide +kernel
theorem dX9_step_44 : decode cX9_step 44 = .ok (.iaload, 1) := by decide +kernel
theorem dX9_step_45 : decode cX9_step 45 = .ok (.iload_n 2, 1) := by decide +kernel
theorem dX9_step_46 : decode cX9_step 46 = .ok (.if_icmp .gt 58, 3) := by decide +kernel
theorem dX9_step_49 : decode cX9_step 49 = .ok (.iload_n 2, 1) := by decide +kernel
theorem dX9_step_50 : decode cX9_step 50 = .ok (.aload_n 0, 1) := by decide +kernel
theorem dX9_step_51 : decode cX9_step 51 = .ok (.getfield 65, 3) := by decide +kernel
theorem dX9_step_54 : decode cX9_step 54 = .ok (.iload 5, 2) := by decide +kernel
theorem dX9_step_56 : decode cX9_step 56 = .ok (.iaload, 1) := by decide +kernel
theorem dX9_step_57 : decode cX9_step 57 = .ok (.if_icmp .ge 47, 3) := by decide +kernel
theorem dX9_step_60 : decode cX9_step 60 = .ok (.aload_n 0, 1) := by decide +kernel
theorem dX9_step_61 : decode cX9_step 61 = .ok (.iload_n 1, 1) := by decide +kernel
theorem dX9_step_62 : decode cX9_step 62 = .ok (.iload_n 2, 1) := by decide +kernel
theorem dX9_step_63 : decode cX9_step 63 = .ok (.invokevirtual 173, 3) := by decide +kernel
theorem dX9_step_66 : decode cX9_step 66 = .ok (.aload_n 0, 1) := by decide +kernel
theorem dX9_step_67 : decode cX9_step 67 = .ok (.iconst 0, 1) := by decide +kernel
theorem dX9_step_68 : decode cX9_step 68 = .ok (.putfield 124, 3) := by decide +kernel
theorem dX9_step_71 : decode cX9_step 71 = .ok (.aload_n 0, 1) := by decide +kernel
theorem dX9_step_72 : decode cX9_step 72 = .ok (.iconst 1, 1) := by decide +kernel
theorem dX9_step_73 : decode cX9_step 73 = .ok (.aload_n 0, 1) := by decide +kernel
theorem dX9_step_74 : decode cX9_step 74 = .ok (.getfield 68, 3) := by decide +kernel
theorem dX9_step_77 : decode cX9_step 77 = .ok (.iload 5, 2) := by decide +kernel
theorem dX9_step_79 : decode cX9_step 79 = .ok (.iaload, 1) := by decide +kernel
theorem dX9_step_80 : decode cX9_step 80 = .ok (.iadd, 1) := by decide +kernel
theorem dX9_step_81 : decode cX9_step 81 = .ok (.invokevirtual 147, 3) := by decide +kernel
theorem dX9_step_84 : decode cX9_step 84 = .ok (.ifCond .eq 18, 3) := by decide +kernel
theorem dX9_step_87 : decode cX9_step 87 = .ok (.aload_n 0, 1) := by decide +kernel
theorem dX9_step_88 : decode cX9_step 88 = .ok (.iload_n 1, 1) := by decide +kernel
theorem dX9_step_89 : decode cX9_step 89 = .ok (.aload_n 0, 1) := by decide +kernel
theorem dX9_step_90 : decode cX9_step 90 = .ok (.getfield 71, 3) := by decide +kernel
theorem dX9_step_93 : decode cX9_step 93 = .ok (.iload 5, 2) := by decide +kernel
theorem dX9_step_95 : decode cX9_step 95 = .ok (.iaload, 1) := by decide +kernel
theorem dX9_step_96 : decode cX9_step 96 = .ok (.invokevirtual 177, 3) := by decide +kernel
theorem dX9_step_99 : decode cX9_step 99 = .ok (.ifCond .ne 5, 3) := by decide +kernel
theorem dX9_step_102 : decode cX9_step 102 = .ok (.iconst 0, 1) := by decide +kernel
theorem dX9_step_103 : decode cX9_step 103 = .ok (.ireturn, 1) := by decide +kernel
theorem dX9_step_104 : decode cX9_step 104 = .ok (.iinc 5 1, 3) := by decide +kernel
theorem dX9_step_107 : decode cX9_step 107 = .ok (.goto (-85), 3) := by decide +kernel
theorem dX9_step_110 : decode cX9_step 110 = .ok (.aload_n 0, 1) := by decide +kernel
theorem dX9_step_111 : decode cX9_step 111 = .ok (.iload_n 1, 1) := by decide +kernel
theorem dX9_step_112 : decode cX9_step 112 = .ok (.iload_n 2, 1) := by decide +kernel
theorem dX9_step_113 : decode cX9_step 113 = .ok (.invokevirtual 173, 3) := by decide +kernel
theorem dX9_step_116 : decode cX9_step 116 = .ok (.aload_n 0, 1) := by decide +kernel
theorem dX9_step_117 : decode cX9_step 117 = .ok (.getfield 50, 3) := by decide +kernel
theorem dX9_step_120 : decode cX9_step 120 = .ok (.iload_n 3, 1) := by decide +kernel
theorem dX9_step_121 : decode cX9_step 121 = .ok (.iaload, 1) := by decide +kernel
theorem dX9_step_122 : decode cX9_step 122 = .ok (.istore 5, 2) := by decide +kernel
theorem dX9_step_124 : decode cX9_step 124 = .ok (.aload_n 0, 1) := by decide +kernel
theorem dX9_step_125 : decode cX9_step 125 = .ok (.iload_n 1, 1) := by decide +kernel
theorem dX9_step_126 : decode cX9_step 126 = .ok (.iload 5, 2) := by decide +kernel
theorem dX9_step_128 : decode cX9_step 128 = .ok (.aload_n 0, 1) := by decide +kernel
theorem dX9_step_129 : decode cX9_step 129 = .ok (.getfield 53, 3) := by decide +kernel
theorem dX9_step_132 : decode cX9_step 132 = .ok (.iload_n 3, 1) := by decide +kernel
theorem dX9_step_133 : decode cX9_step 133 = .ok (.iaload, 1) := by decide +kernel
theorem dX9_step_134 : decode cX9_step 134 = .ok (.aload_n 0, 1) := by decide +kernel
theorem dX9_step_135 : decode cX9_step 135 = .ok (.getfield 56, 3) := by decide +kernel
theorem dX9_step_138 : decode cX9_step 138 = .ok (.iload_n 3, 1) := by decide +kernel
theorem dX9_step_139 : decode cX9_step 139 = .ok (.iaload, 1) := by decide +kernel
theorem dX9_step_140 : decode cX9_step 140 = .ok (.invokevirtual 180, 3) := by decide +kernel
theorem dX9_step_143 : decode cX9_step 143 = .ok (.ifCond .ne 5, 3) := by decide +kernel
theorem dX9_step_146 : decode cX9_step 146 = .ok (.iconst 0, 1) := by decide +kernel
theorem dX9_step_147 : decode cX9_step 147 = .ok (.ireturn, 1) := by decide +kernel
theorem dX9_step_148 : decode cX9_step 148 = .ok (.iload 5, 2) := by decide +kernel
theorem dX9_step_150 : decode cX9_step 150 = .ok (.bipush 25, 2) := by decide +kernel
theorem dX9_step_152 : decode cX9_step 152 = .ok (.if_icmp .eq 24, 3) := by decide +kernel
theorem dX9_step_155 : decode cX9_step 155 = .ok (.iload 5, 2) := by decide +kernel
theorem dX9_step_157 : decode cX9_step 157 = .ok (.bipush 37, 2) := by decide +kernel
theorem dX9_step_159 : decode cX9_step 159 = .ok (.if_icmp .eq 17, 3) := by decide +kernel
theorem dX9_step_162 : decode cX9_step 162 = .ok (.iload 5, 2) := by decide +kernel
theorem dX9_step_164 : decode cX9_step 164 = .ok (.bipush 38, 2) := by decide +kernel
theorem dX9_step_166 : decode cX9_step 166 = .ok (.if_icmp .eq 10, 3) := by decide +kernel
theorem dX9_step_169 : decode cX9_step 169 = .ok (.iload 5, 2) := by decide +kernel
theorem dX9_step_171 : decode cX9_step 171 = .ok (.bipush 39, 2) := by decide +kernel
theorem dX9_step_173 : decode cX9_step 173 = .ok (.if_icmp .ne 7, 3) := by decide +kernel
theorem dX9_step_176 : decode cX9_step 176 = .ok (.iconst 1, 1) := by decide +kernel
theorem dX9_step_177 : decode cX9_step 177 = .ok (.goto 4, 3) := by decide +kernel
theorem dX9_step_180 : decode cX9_step 180 = .ok (.iconst 0, 1) := by decide +kernel
theorem dX9_step_181 : decode cX9_step 181 = .ok (.istore 6, 2) := by decide +kernel
theorem dX9_step_183 : decode cX9_step 183 = .ok (.iload 6, 2) := by decide +kernel
theorem dX9_step_185 : decode cX9_step 185 = .ok (.ifCond .ne 14, 3) := by decide +kernel
theorem dX9_step_188 : decode cX9_step 188 = .ok (.aload_n 0, 1) := by decide +kernel
theorem dX9_step_189 : decode cX9_step 189 = .ok (.iload_n 1, 1) := by decide +kernel
theorem dX9_step_190 : decode cX9_step 190 = .ok (.iload_n 2, 1) := by decide +kernel
theorem dX9_step_191 : decode cX9_step 191 = .ok (.iconst 1, 1) := by decide +kernel
theorem dX9_step_192 : decode cX9_step 192 = .ok (.iadd, 1) := by decide +kernel
theorem dX9_step_193 : decode cX9_step 193 = .ok (.invokevirtual 177, 3) := by decide +kernel
theorem dX9_step_196 : decode cX9_step 196 = .ok (.ifCond .eq 35, 3) := by decide +kernel
theorem dX9_step_199 : decode cX9_step 199 = .ok (.iload 5, 2) := by decide +kernel
theorem dX9_step_201 : decode cX9_step 201 = .ok (.bipush 19, 2) := by decide +kernel
theorem dX9_step_203 : decode cX9_step 203 = .ok (.if_icmp .lt 24, 3) := by decide +kernel
theorem dX9_step_206 : decode cX9_step 206 = .ok (.iload 5, 2) := by decide +kernel
theorem dX9_step_208 : decode cX9_step 208 = .ok (.bipush 25, 2) := by decide +kernel
theorem dX9_step_210 : decode cX9_step 210 = .ok (.if_icmp .gt 17, 3) := by decide +kernel
theorem dX9_step_213 : decode cX9_step 213 = .ok (.aload_n 0, 1) := by decide +kernel
theorem dX9_step_214 : decode cX9_step 214 = .ok (.iload_n 1, 1) := by decide +kernel
theorem dX9_step_215 : decode cX9_step 215 = .ok (.aload_n 0, 1) := by decide +kernel
theorem dX9_step_216 : decode cX9_step 216 = .ok (.getfield 53, 3) := by decide +kernel
theorem dX9_step_219 : decode cX9_step 219 = .ok (.iload_n 3, 1) := by decide +kernel
theorem dX9_step_220 : decode cX9_step 220 = .ok (.iaload, 1) := by decide +kernel
theorem dX9_step_221 : decode cX9_step 221 = .ok (.invokevirtual 177, 3) := by decide +kernel
theorem dX9_step_224 : decode cX9_step 224 = .ok (.ifCond .eq 7, 3) := by decide +kernel
theorem dX9_step_227 : decode cX9_step 227 = .ok (.iconst 1, 1) := by decide +kernel
theorem dX9_step_228 : decode cX9_step 228 = .ok (.goto 4, 3) := by decide +kernel
theorem dX9_step_231 : decode cX9_step 231 = .ok (.iconst 0, 1) := by decide +kernel
theorem dX9_step_232 : decode cX9_step 232 = .ok (.ireturn, 1) := by decide +kernel
theorem dX9_verify_0 : decode cX9_verify 0 = .ok (.aload_n 0, 1) := by decide +kernel
theorem dX9_verify_1 : decode cX9_verify 1 = .ok (.iload_n 1, 1) := by decide +kernel
theorem dX9_verify_2 : decode cX9_verify 2 = .ok (.invokevirtual 104, 3) := by decide +kernel
theorem dX9_verify_5 : decode cX9_verify 5 = .ok (.ifCond .ne 5, 3) := by decide +kernel
theorem dX9_verify_8 : decode cX9_verify 8 = .ok (.iconst (-1), 1) := by decide +kernel
theorem dX9_verify_9 : decode cX9_verify 9 = .ok (.ireturn, 1) := by decide +kernel
theorem dX9_verify_10 : decode cX9_verify 10 = .ok (.aload_n 0, 1) := by decide +kernel
theorem dX9_verify_11 : decode cX9_verify 11 = .ok (.getfield 74, 3) := by decide +kernel
theorem dX9_verify_14 : decode cX9_verify 14 = .ok (.iload_n 1, 1) := by decide +kernel
theorem dX9_verify_15 : decode cX9_verify 15 = .ok (.iconst 1, 1) := by decide +kernel
theorem dX9_verify_16 : decode cX9_verify 16 = .ok (.bastore, 1) := by decide +kernel
theorem dX9_verify_17 : decode cX9_verify 17 = .ok (.aload_n 0, 1) := by decide +kernel
theorem dX9_verify_18 : decode cX9_verify 18 = .ok (.iconst 0, 1) := by decide +kernel
theorem dX9_verify_19 : decode cX9_verify 19 = .ok (.putfield 183, 3) := by decide +kernel
theorem dX9_verify_22 : decode cX9_verify 22 = .ok (.iconst 0, 1) := by decide +kernel
theorem dX9_verify_23 : decode cX9_verify 23 = .ok (.istore_n 2, 1) := by decide +kernel
theorem dX9_verify_24 : decode cX9_verify 24 = .ok (.iload_n 2, 1) := by decide +kernel
theorem dX9_verify_25 : decode cX9_verify 25 = .ok (.sipush 200, 3) := by decide +kernel
theorem dX9_verify_28 : decode cX9_verify 28 = .ok (.if_icmp .ge 29, 3) := by decide +kernel
theorem dX9_verify_31 : decode cX9_verify 31 = .ok (.aload_n 0, 1) := by decide +kernel
theorem dX9_verify_32 : decode cX9_verify 32 = .ok (.getfield 77, 3) := by decide +kernel
theorem dX9_verify_35 : decode cX9_verify 35 = .ok (.sipush 200, 3) := by decide +kernel
theorem dX9_verify_38 : decode cX9_verify 38 = .ok (.iload_n 1, 1) := by decide +kernel
theorem dX9_verify_39 : decode cX9_verify 39 = .ok (.imul, 1) := by decide +kernel
theorem dX9_verify_40 : decode cX9_verify 40 = .ok (.iload_n 2, 1) := by decide +kernel
theorem dX9_verify_41 : decode cX9_verify 41 = .ok (.iadd, 1) := by decide +kernel
theorem dX9_verify_42 : decode cX9_verify 42 = .ok (.iconst (-1), 1) := by decide +kernel
theorem dX9_verify_43 : decode cX9_verify 43 = .ok (.iastore, 1) := by decide +kernel
theorem dX9_verify_44 : decode cX9_verify 44 = .ok (.aload_n 0, 1) := by decide +kernel
theorem dX9_verify_45 : decode cX9_verify 45 = .ok (.getfield 84, 3) := by decide +kernel
theorem dX9_verify_48 : decode cX9_verify 48 = .ok (.iload_n 2, 1) := by decide +kernel
theorem dX9_verify_49 : decode cX9_verify 49 = .ok (.iconst 0, 1) := by decide +kernel
theorem dX9_verify_50 : decode cX9_verify 50 = .ok (.bastore, 1) := by decide +kernel
theorem dX9_verify_51 : decode cX9_verify 51 = .ok (.iinc 2 1, 3) := by decide +kernel
theorem dX9_verify_54 : decode cX9_verify 54 = .ok (.goto (-30), 3) := by decide +kernel
theorem dX9_verify_57 : decode cX9_verify 57 = .ok (.aload_n 0, 1) := by decide +kernel
theorem dX9_verify_58 : decode cX9_verify 58 = .ok (.getfield 47, 3) := by decide +kernel
theorem dX9_verify_61 : decode cX9_verify 61 = .ok (.iload_n 1, 1) := by decide +kernel
theorem dX9_verify_62 : decode cX9_verify 62 = .ok (.iaload, 1) := by decide +kernel
theorem dX9_verify_63 : decode cX9_verify 63 = .ok (.ifCond .ne 5, 3) := by decide +kernel
theorem dX9_verify_66 : decode cX9_verify 66 = .ok (.iconst 1, 1) := by decide +kernel
theorem dX9_verify_67 : decode cX9_verify 67 = .ok (.ireturn, 1) := by decide +kernel
theorem dX9_verify_68 : decode cX9_verify 68 = .ok (.aload_n 0, 1) := by decide +kernel
theorem dX9_verify_69 : decode cX9_verify 69 = .ok (.iconst 0, 1) := by decide +kernel
theorem dX9_verify_70 : decode cX9_verify 70 = .ok (.putfield 124, 3) := by decide +kernel
theorem dX9_verify_73 : decode cX9_verify 73 = .ok (.iconst 0, 1) := by decide +kernel
theorem dX9_verify_74 : decode cX9_verify 74 = .ok (.istore_n 2, 1) := by decide +kernel
theorem dX9_verify_75 : decode cX9_verify 75 = .ok (.iload_n 2, 1) := by decide +kernel
theorem dX9_verify_76 : decode cX9_verify 76 = .ok (.aload_n 0, 1) := by decide +kernel
theorem dX9_verify_77 : decode cX9_verify 77 = .ok (.getfield 32, 3) := by decide +kernel
theorem dX9_verify_80 : decode cX9_verify 80 = .ok (.iload_n 1, 1) := by decide +kernel
theorem dX9_verify_81 : decode cX9_verify 81 = .ok (.iaload, 1) := by decide +kernel
theorem dX9_verify_82 : decode cX9_verify 82 = .ok (.if_icmp .ge 41, 3) := by decide +kernel
theorem dX9_verify_85 : decode cX9_verify 85 = .ok (.aload_n 0, 1) := by decide +kernel
theorem dX9_verify_86 : decode cX9_verify 86 = .ok (.getfield 87, 3) := by decide +kernel
theorem dX9_verify_89 : decode cX9_verify 89 = .ok (.iload_n 2, 1) := by decide +kernel
theorem dX9_verify_90 : decode cX9_verify 90 = .ok (.iload_n 2, 1) := by decide +kernel
theorem dX9_verify_91 : decode cX9_verify 91 = .ok (.aload_n 0, 1) := by decide +kernel
theorem dX9_verify_92 : decode cX9_verify 92 = .ok (.getfield 38, 3) := by decide +kernel
theorem dX9_verify_95 : decode cX9_verify 95 = .ok (.iload_n 1, 1) := by decide +kernel
theorem dX9_verify_96 : decode cX9_verify 96 = .ok (.iaload, 1) := by decide +kernel
theorem dX9_verify_97 : decode cX9_verify 97 = .ok (.if_icmp .ge 17, 3) := by decide +kernel
theorem dX9_verify_100 : decode cX9_verify 100 = .ok (.aload_n 0, 1) := by decide +kernel
theorem dX9_verify_101 : decode cX9_verify 101 = .ok (.getfield 41, 3) := by decide +kernel
theorem dX9_verify_104 : decode cX9_verify 104 = .ok (.bipush 8, 2) := by decide +kernel
theorem dX9_verify_106 : decode cX9_verify 106 = .ok (.iload_n 1, 1) := by decide +kernel
theorem dX9_verify_107 : decode cX9_verify 107 = .ok (.imul, 1) := by decide +kernel
theorem dX9_verify_108 : decode cX9_verify 108 = .ok (.iload_n 2, 1) := by decide +kernel
theorem dX9_verify_109 : decode cX9_verify 109 = .ok (.iadd, 1) := by decide +kernel
theorem dX9_verify_110 : decode cX9_verify 110 = .ok (.iaload, 1) := by decide +kernel
theorem dX9_verify_111 : decode cX9_verify 111 = .ok (.goto 5, 3) := by decide +kernel
theorem dX9_verify_114 : decode cX9_verify 114 = .ok (.bipush 99, 2) := by decide +kernel
theorem dX9_verify_116 : decode cX9_verify 116 = .ok (.iastore, 1) := by decide +kernel
theorem dX9_verify_117 : decode cX9_verify 117 = .ok (.iinc 2 1, 3) := by decide +kernel
theorem dX9_verify_120 : decode cX9_verify 120 = .ok (.goto (-45), 3) := by decide +kernel
theorem dX9_verify_123 : decode cX9_verify 123 = .ok (.aload_n 0, 1) := by decide +kernel
theorem dX9_verify_124 : decode cX9_verify 124 = .ok (.iload_n 1, 1) := by decide +kernel
theorem dX9_verify_125 : decode cX9_verify 125 = .ok (.iconst 0, 1) := by decide +kernel
theorem dX9_verify_126 : decode cX9_verify 126 = .ok (.invokevirtual 177, 3) := by decide +kernel
theorem dX9_verify_129 : decode cX9_verify 129 = .ok (.istore_n 2, 1) := by decide +kernel
theorem dX9_verify_130 : decode cX9_verify 130 = .ok (.iconst 0, 1) := by decide +kernel
theorem dX9_verify_131 : decode cX9_verify 131 = .ok (.istore_n 3, 1) := by decide +kernel
theorem dX9_verify_132 : decode cX9_verify 132 = .ok (.iload_n 3, 1) := by decide +kernel
theorem dX9_verify_133 : decode cX9_verify 133 = .ok (.aload_n 0, 1) := by decide +kernel
theorem dX9_verify_134 : decode cX9_verify 134 = .ok (.getfield 47, 3) := by decide +kernel
theorem dX9_verify_137 : decode cX9_verify 137 = .ok (.iload_n 1, 1) := by decide +kernel
theorem dX9_verify_138 : decode cX9_verify 138 = .ok (.iaload, 1) := by decide +kernel
theorem dX9_verify_139 : decode cX9_verify 139 = .ok (.if_icmp .ge 61, 3) := by decide +kernel
theorem dX9_verify_142 : decode cX9_verify 142 = .ok (.aload_n 0, 1) := by decide +kernel
theorem dX9_verify_143 : decode cX9_verify 143 = .ok (.getfield 84, 3) := by decide +kernel
theorem dX9_verify_146 : decode cX9_verify 146 = .ok (.iload_n 3, 1) := by decide +kernel
theorem dX9_verify_147 : decode cX9_verify 147 = .ok (.baload, 1) := by decide +kernel
theorem dX9_verify_148 : decode cX9_verify 148 = .ok (.ifCond .eq 46, 3) := by decide +kernel
theorem dX9_verify_151 : decode cX9_verify 151 = .ok (.aload_n 0, 1) := by decide +kernel
theorem dX9_verify_152 : decode cX9_verify 152 = .ok (.getfield 84, 3) := by decide +kernel
theorem dX9_verify_155 : decode cX9_verify 155 = .ok (.iload_n 3, 1) := by decide +kernel
theorem dX9_verify_156 : decode cX9_verify 156 = .ok (.iconst 0, 1) := by decide +kernel
theorem dX9_verify_157 : decode cX9_verify 157 = .ok (.bastore, 1) := by decide +kernel
theorem dX9_verify_158 : decode cX9_verify 158 = .ok (.aload_n 0, 1) := by decide +kernel
theorem dX9_verify_159 : decode cX9_verify 159 = .ok (.dup, 1) := by decide +kernel
theorem dX9_verify_160 : decode cX9_verify 160 = .ok (.getfield 183, 3) := by decide +kernel
theorem dX9_verify_163 : decode cX9_verify 163 = .ok (.iconst 1, 1) := by decide +kernel
theorem dX9_verify_164 : decode cX9_verify 164 = .ok (.iadd, 1) := by decide +kernel
theorem dX9_verify_165 : decode cX9_verify 165 = .ok (.putfield 183, 3) := by decide +kernel
theorem dX9_verify_168 : decode cX9_verify 168 = .ok (.aload_n 0, 1) := by decide +kernel
theorem dX9_verify_169 : decode cX9_verify 169 = .ok (.iload_n 3, 1) := by decide +kernel
theorem dX9_verify_170 : decode cX9_verify 170 = .ok (.putfield 127, 3) := by decide +kernel
theorem dX9_verify_173 : decode cX9_verify 173 = .ok (.aload_n 0, 1) := by decide +kernel
theorem dX9_verify_174 : decode cX9_verify 174 = .ok (.iload_n 1, 1) := by decide +kernel
theorem dX9_verify_175 : decode cX9_verify 175 = .ok (.iload_n 3, 1) := by decide +kernel
theorem dX9_verify_176 : decode cX9_verify 176 = .ok (.invokevirtual 186, 3) := by decide +kernel
theorem dX9_verify_179 : decode cX9_verify 179 = .ok (.ifCond .ne 10, 3) := by decide +kernel
theorem dX9_verify_182 : decode cX9_verify 182 = .ok (.iconst 1, 1) := by decide +kernel
theorem dX9_verify_183 : decode cX9_verify 183 = .ok (.aload_n 0, 1) := by decide +kernel
theorem dX9_verify_184 : decode cX9_verify 184 = .ok (.getfield 127, 3) := by decide +kernel
theorem dX9_verify_187 : decode cX9_verify 187 = .ok (.iadd, 1) := by decide +kernel
theorem dX9_verify_188 : decode cX9_verify 188 = .ok (.ireturn, 1) := by decide +kernel
theorem dX9_verify_189 : decode cX9_verify 189 = .ok (.iconst 0, 1) := by decide +kernel
theorem dX9_verify_190 : decode cX9_verify 190 = .ok (.istore_n 3, 1) := by decide +kernel
theorem dX9_verify_191 : decode cX9_verify 191 = .ok (.goto (-59), 3) := by decide +kernel
theorem dX9_verify_194 : decode cX9_verify 194 = .ok (.iinc 3 1, 3) := by decide +kernel
theorem dX9_verify_197 : decode cX9_verify 197 = .ok (.goto (-65), 3) := by decide +kernel
theorem dX9_verify_200 : decode cX9_verify 200 = .ok (.iconst 0, 1) := by decide +kernel
theorem dX9_verify_201 : decode cX9_verify 201 = .ok (.ireturn, 1) := by decide +kernel
theorem dX9_stands_0 : decode cX9_stands 0 = .ok (.sipush 200, 3) := by decide +kernel
theorem dX9_stands_3 : decode cX9_stands 3 = .ok (.iload_n 1, 1) := by decide +kernel
theorem dX9_stands_4 : decode cX9_stands 4 = .ok (.imul, 1) := by decide +kernel
theorem dX9_stands_5 : decode cX9_stands 5 = .ok (.iload_n 2, 1) := by decide +kernel
theorem dX9_stands_6 : decode cX9_stands 6 = .ok (.iadd, 1) := by decide +kernel
theorem dX9_stands_7 : decode cX9_stands 7 = .ok (.istore 5, 2) := by decide +kernel
theorem dX9_stands_9 : decode cX9_stands 9 = .ok (.aload_n 0, 1) := by decide +kernel
theorem dX9_stands_10 : decode cX9_stands 10 = .ok (.iload_n 1, 1) := by decide +kernel
theorem dX9_stands_11 : decode cX9_stands 11 = .ok (.invokevirtual 104, 3) := by decide +kernel
theorem dX9_stands_14 : decode cX9_stands 14 = .ok (.ifCond .eq 36, 3) := by decide +kernel
theorem dX9_stands_17 : decode cX9_stands 17 = .ok (.aload_n 0, 1) := by decide +kernel
theorem dX9_stands_18 : decode cX9_stands 18 = .ok (.getfield 74, 3) := by decide +kernel
theorem dX9_stands_21 : decode cX9_stands 21 = .ok (.iload_n 1, 1) := by decide +kernel
theorem dX9_stands_22 : decode cX9_stands 22 = .ok (.baload, 1) := by decide +kernel
theorem dX9_stands_23 : decode cX9_stands 23 = .ok (.ifCond .eq 27, 3) := by decide +kernel
theorem dX9_stands_26 : decode cX9_stands 26 = .ok (.iload_n 2, 1) := by decide +kernel
theorem dX9_stands_27 : decode cX9_stands 27 = .ok (.ifCond .lt 23, 3) := by decide +kernel
theorem dX9_stands_30 : decode cX9_stands 30 = .ok (.iload_n 2, 1) := by decide +kernel
theorem dX9_stands_31 : decode cX9_stands 31 = .ok (.aload_n 0, 1) := by decide +kernel
theorem dX9_stands_32 : decode cX9_stands 32 = .ok (.getfield 47, 3) := by decide +kernel
theorem dX9_stands_35 : decode cX9_stands 35 = .ok (.iload_n 1, 1) := by decide +kernel
theorem dX9_stands_36 : decode cX9_stands 36 = .ok (.iaload, 1) := by decide +kernel
theorem dX9_stands_37 : decode cX9_stands 37 = .ok (.if_icmp .ge 13, 3) := by decide +kernel
theorem dX9_stands_40 : decode cX9_stands 40 = .ok (.aload_n 0, 1) := by decide +kernel
theorem dX9_stands_41 : decode cX9_stands 41 = .ok (.getfield 77, 3) := by decide +kernel
theorem dX9_stands_44 : decode cX9_stands 44 = .ok (.iload 5, 2) := by decide +kernel
theorem dX9_stands_46 : decode cX9_stands 46 = .ok (.iaload, 1) := by decide +kernel
theorem dX9_stands_47 : decode cX9_stands 47 = .ok (.ifCond .ge 5, 3) := by decide +kernel
theorem dX9_stands_50 : decode cX9_stands 50 = .ok (.iconst (-1), 1) := by decide +kernel
theorem dX9_stands_51 : decode cX9_stands 51 = .ok (.ireturn, 1) := by decide +kernel
theorem dX9_stands_52 : decode cX9_stands 52 = .ok (.iload_n 3, 1) := by decide +kernel
theorem dX9_stands_53 : decode cX9_stands 53 = .ok (.ifCond .ne 11, 3) := by decide +kernel
theorem dX9_stands_56 : decode cX9_stands 56 = .ok (.aload_n 0, 1) := by decide +kernel
theorem dX9_stands_57 : decode cX9_stands 57 = .ok (.getfield 77, 3) := by decide +kernel
theorem dX9_stands_60 : decode cX9_stands 60 = .ok (.iload 5, 2) := by decide +kernel
theorem dX9_stands_62 : decode cX9_stands 62 = .ok (.iaload, 1) := by decide +kernel
theorem dX9_stands_63 : decode cX9_stands 63 = .ok (.ireturn, 1) := by decide +kernel
theorem dX9_stands_64 : decode cX9_stands 64 = .ok (.iload_n 3, 1) := by decide +kernel
theorem dX9_stands_65 : decode cX9_stands 65 = .ok (.iconst 1, 1) := by decide +kernel
theorem dX9_stands_66 : decode cX9_stands 66 = .ok (.if_icmp .ne 37, 3) := by decide +kernel
theorem dX9_stands_69 : decode cX9_stands 69 = .ok (.iload 4, 2) := by decide +kernel
theorem dX9_stands_71 : decode cX9_stands 71 = .ok (.ifCond .lt 30, 3) := by decide +kernel
theorem dX9_stands_74 : decode cX9_stands 74 = .ok (.iload 4, 2) := by decide +kernel
theorem dX9_stands_76 : decode cX9_stands 76 = .ok (.aload_n 0, 1) := by decide +kernel
theorem dX9_stands_77 : decode cX9_stands 77 = .ok (.getfield 32, 3) := by decide +kernel
theorem dX9_stands_80 : decode cX9_stands 80 = .ok (.iload_n 1, 1) := by decide +kernel
theorem dX9_stands_81 : decode cX9_stands 81 = .ok (.iaload, 1) := by decide +kernel
theorem dX9_stands_82 : decode cX9_stands 82 = .ok (.if_icmp .ge 19, 3) := by decide +kernel
theorem dX9_stands_85 : decode cX9_stands 85 = .ok (.aload_n 0, 1) := by decide +kernel
theorem dX9_stands_86 : decode cX9_stands 86 = .ok (.getfield 81, 3) := by decide +kernel
theorem dX9_stands_89 : decode cX9_stands 89 = .ok (.bipush 12, 2) := by decide +kernel
theorem dX9_stands_91 : decode cX9_stands 91 = .ok (.iload 5, 2) := by decide +kernel
theorem dX9_stands_93 : decode cX9_stands 93 = .ok (.imul, 1) := by decide +kernel
theorem dX9_stands_94 : decode cX9_stands 94 = .ok (.iload 4, 2) := by decide +kernel
theorem dX9_stands_96 : decode cX9_stands 96 = .ok (.iadd, 1) := by decide +kernel
theorem dX9_stands_97 : decode cX9_stands 97 = .ok (.iaload, 1) := by decide +kernel
theorem dX9_stands_98 : decode cX9_stands 98 = .ok (.goto 4, 3) := by decide +kernel
theorem dX9_stands_101 : decode cX9_stands 101 = .ok (.iconst (-1), 1) := by decide +kernel
theorem dX9_stands_102 : decode cX9_stands 102 = .ok (.ireturn, 1) := by decide +kernel
theorem dX9_stands_103 : decode cX9_stands 103 = .ok (.iload_n 3, 1) := by decide +kernel
theorem dX9_stands_104 : decode cX9_stands 104 = .ok (.iconst 2, 1) := by decide +kernel
theorem dX9_stands_105 : decode cX9_stands 105 = .ok (.if_icmp .ne 43, 3) := by decide +kernel
theorem dX9_stands_108 : decode cX9_stands 108 = .ok (.iload 4, 2) := by decide +kernel
theorem dX9_stands_110 : decode cX9_stands 110 = .ok (.ifCond .lt 38, 3) := by decide +kernel
theorem dX9_stands_113 : decode cX9_stands 113 = .ok (.iload 4, 2) := by decide +kernel
theorem dX9_stands_115 : decode cX9_stands 115 = .ok (.aload_n 0, 1) := by decide +kernel
theorem dX9_stands_116 : decode cX9_stands 116 = .ok (.getfield 77, 3) := by decide +kernel
theorem dX9_stands_119 : decode cX9_stands 119 = .ok (.iload 5, 2) := by decide +kernel
theorem dX9_stands_121 : decode cX9_stands 121 = .ok (.iaload, 1) := by decide +kernel
theorem dX9_stands_122 : decode cX9_stands 122 = .ok (.if_icmp .ge 26, 3) := by decide +kernel
theorem dX9_stands_125 : decode cX9_stands 125 = .ok (.aload_n 0, 1) := by decide +kernel
theorem dX9_stands_126 : decode cX9_stands 126 = .ok (.getfield 81, 3) := by decide +kernel
theorem dX9_stands_129 : decode cX9_stands 129 = .ok (.bipush 12, 2) := by decide +kernel
theorem dX9_stands_131 : decode cX9_stands 131 = .ok (.iload 5, 2) := by decide +kernel
theorem dX9_stands_133 : decode cX9_stands 133 = .ok (.imul, 1) := by decide +kernel
theorem dX9_stands_134 : decode cX9_stands 134 = .ok (.aload_n 0, 1) := by decide +kernel
theorem dX9_stands_135 : decode cX9_stands 135 = .ok (.getfield 32, 3) := by decide +kernel
theorem dX9_stands_138 : decode cX9_stands 138 = .ok (.iload_n 1, 1) := by decide +kernel
theorem dX9_stands_139 : decode cX9_stands 139 = .ok (.iaload, 1) := by decide +kernel
theorem dX9_stands_140 : decode cX9_stands 140 = .ok (.iadd, 1) := by decide +kernel
theorem dX9_stands_141 : decode cX9_stands 141 = .ok (.iload 4, 2) := by decide +kernel
theorem dX9_stands_143 : decode cX9_stands 143 = .ok (.iadd, 1) := by decide +kernel
theorem dX9_stands_144 : decode cX9_stands 144 = .ok (.iaload, 1) := by decide +kernel
theorem dX9_stands_145 : decode cX9_stands 145 = .ok (.goto 4, 3) := by decide +kernel
theorem dX9_stands_148 : decode cX9_stands 148 = .ok (.iconst (-1), 1) := by decide +kernel
theorem dX9_stands_149 : decode cX9_stands 149 = .ok (.ireturn, 1) := by decide +kernel
theorem dX9_looked_0 : decode cX9_looked 0 = .ok (.aload_n 0, 1) := by decide +kernel
theorem dX9_looked_1 : decode cX9_looked 1 = .ok (.getfield 183, 3) := by decide +kernel
theorem dX9_looked_4 : decode cX9_looked 4 = .ok (.ireturn, 1) := by decide +kernel
theorem dJ9_min_7cf53_0 : decode cJ9_min_7cf53 0 = .ok (.iload_n 0, 1) := by decide +kernel
theorem dJ9_min_7cf53_1 : decode cJ9_min_7cf53 1 = .ok (.iload_n 1, 1) := by decide +kernel
theorem dJ9_min_7cf53_2 : decode cJ9_min_7cf53 2 = .ok (.if_icmp .gt 7, 3) := by decide +kernel
theorem dJ9_min_7cf53_5 : decode cJ9_min_7cf53 5 = .ok (.iload_n 0, 1) := by decide +kernel
theorem dJ9_min_7cf53_6 : decode cJ9_min_7cf53 6 = .ok (.goto 4, 3) := by decide +kernel
theorem dJ9_min_7cf53_9 : decode cJ9_min_7cf53 9 = .ok (.iload_n 1, 1) := by decide +kernel
theorem dJ9_min_7cf53_10 : decode cJ9_min_7cf53 10 = .ok (.ireturn, 1) := by decide +kernel
theorem dJ7_fill_53178_0 : decode cJ7_fill_53178 0 = .ok (.iconst 0, 1) := by decide +kernel
theorem dJ7_fill_53178_1 : decode cJ7_fill_53178 1 = .ok (.istore_n 2, 1) := by decide +kernel
theorem dJ7_fill_53178_2 : decode cJ7_fill_53178 2 = .ok (.aload_n 0, 1) := by decide +kernel
theorem dJ7_fill_53178_3 : decode cJ7_fill_53178 3 = .ok (.arraylength, 1) := by decide +kernel
theorem dJ7_fill_53178_4 : decode cJ7_fill_53178 4 = .ok (.istore_n 3, 1) := by decide +kernel
theorem dJ7_fill_53178_5 : decode cJ7_fill_53178 5 = .ok (.iload_n 2, 1) := by decide +kernel
theorem dJ7_fill_53178_6 : decode cJ7_fill_53178 6 = .ok (.iload_n 3, 1) := by decide +kernel
theorem dJ7_fill_53178_7 : decode cJ7_fill_53178 7 = .ok (.if_icmp .ge 13, 3) := by decide +kernel
theorem dJ7_fill_53178_10 : decode cJ7_fill_53178 10 = .ok (.aload_n 0, 1) := by decide +kernel
theorem dJ7_fill_53178_11 : decode cJ7_fill_53178 11 = .ok (.iload_n 2, 1) := by decide +kernel
theorem dJ7_fill_53178_12 : decode cJ7_fill_53178 12 = .ok (.iload_n 1, 1) := by decide +kernel
theorem dJ7_fill_53178_13 : decode cJ7_fill_53178 13 = .ok (.iastore, 1) := by decide +kernel
theorem dJ7_fill_53178_14 : decode cJ7_fill_53178 14 = .ok (.iinc 2 1, 3) := by decide +kernel
theorem dJ7_fill_53178_17 : decode cJ7_fill_53178 17 = .ok (.goto (-12), 3) := by decide +kernel
theorem dJ7_fill_53178_20 : decode cJ7_fill_53178 20 = .ok (.return_, 1) := by decide +kernel
theorem dL_law_0 : decode cL_law 0 = .ok (.new 7, 3) := by decide +kernel
theorem dL_law_3 : decode cL_law 3 = .ok (.dup, 1) := by decide +kernel
theorem dL_law_4 : decode cL_law 4 = .ok (.invokespecial 9, 3) := by decide +kernel
theorem dL_law_7 : decode cL_law 7 = .ok (.astore_n 1, 1) := by decide +kernel
theorem dL_law_8 : decode cL_law 8 = .ok (.new 10, 3) := by decide +kernel
theorem dL_law_11 : decode cL_law 11 = .ok (.dup, 1) := by decide +kernel
theorem dL_law_12 : decode cL_law 12 = .ok (.invokespecial 12, 3) := by decide +kernel
theorem dL_law_15 : decode cL_law 15 = .ok (.astore_n 2, 1) := by decide +kernel
theorem dL_law_16 : decode cL_law 16 = .ok (.iconst 0, 1) := by decide +kernel
theorem dL_law_17 : decode cL_law 17 = .ok (.istore_n 3, 1) := by decide +kernel
theorem dL_law_18 : decode cL_law 18 = .ok (.iload_n 3, 1) := by decide +kernel
theorem dL_law_19 : decode cL_law 19 = .ok (.aload_n 0, 1) := by decide +kernel
theorem dL_law_20 : decode cL_law 20 = .ok (.arraylength, 1) := by decide +kernel
theorem dL_law_21 : decode cL_law 21 = .ok (.bipush 6, 2) := by decide +kernel
theorem dL_law_23 : decode cL_law 23 = .ok (.isub, 1) := by decide +kernel
theorem dL_law_24 : decode cL_law 24 = .ok (.if_icmp .gt 450, 3) := by decide +kernel
theorem dL_law_27 : decode cL_law 27 = .ok (.aload_n 0, 1) := by decide +kernel
theorem dL_law_28 : decode cL_law 28 = .ok (.iload_n 3, 1) := by decide +kernel
theorem dL_law_29 : decode cL_law 29 = .ok (.iaload, 1) := by decide +kernel
theorem dL_law_30 : decode cL_law 30 = .ok (.bipush 15, 2) := by decide +kernel
theorem dL_law_32 : decode cL_law 32 = .ok (.iand, 1) := by decide +kernel
theorem dL_law_33 : decode cL_law 33 = .ok (.tableswitch 435 0 9 #[55, 78, 111, 164, 197, 230, 283, 346, 369, 422], 55) := by decide +kernel
theorem dL_law_88 : decode cL_law 88 = .ok (.aload_n 1, 1) := by decide +kernel
theorem dL_law_89 : decode cL_law 89 = .ok (.aload_n 0, 1) := by decide +kernel
theorem dL_law_90 : decode cL_law 90 = .ok (.iload_n 3, 1) := by decide +kernel
theorem dL_law_91 : decode cL_law 91 = .ok (.iconst 1, 1) := by decide +kernel
theorem dL_law_92 : decode cL_law 92 = .ok (.iadd, 1) := by decide +kernel
theorem dL_law_93 : decode cL_law 93 = .ok (.iaload, 1) := by decide +kernel
theorem dL_law_94 : decode cL_law 94 = .ok (.invokevirtual 13, 3) := by decide +kernel
theorem dL_law_97 : decode cL_law 97 = .ok (.aload_n 2, 1) := by decide +kernel
theorem dL_law_98 : decode cL_law 98 = .ok (.aload_n 0, 1) := by decide +kernel
theorem dL_law_99 : decode cL_law 99 = .ok (.iload_n 3, 1) := by decide +kernel
theorem dL_law_100 : decode cL_law 100 = .ok (.iconst 1, 1) := by decide +kernel
theorem dL_law_101 : decode cL_law 101 = .ok (.iadd, 1) := by decide +kernel
theorem dL_law_102 : decode cL_law 102 = .ok (.iaload, 1) := by decide +kernel
theorem dL_law_103 : decode cL_law 103 = .ok (.invokevirtual 17, 3) := by decide +kernel
theorem dL_law_106 : decode cL_law 106 = .ok (.if_icmp .eq 362, 3) := by decide +kernel
theorem dL_law_109 : decode cL_law 109 = .ok (.iconst 0, 1) := by decide +kernel
theorem dL_law_110 : decode cL_law 110 = .ok (.ireturn, 1) := by decide +kernel
theorem dL_law_111 : decode cL_law 111 = .ok (.aload_n 1, 1) := by decide +kernel
theorem dL_law_112 : decode cL_law 112 = .ok (.aload_n 0, 1) := by decide +kernel
theorem dL_law_113 : decode cL_law 113 = .ok (.iload_n 3, 1) := by decide +kernel
theorem dL_law_114 : decode cL_law 114 = .ok (.iconst 1, 1) := by decide +kernel
theorem dL_law_115 : decode cL_law 115 = .ok (.iadd, 1) := by decide +kernel
theorem dL_law_116 : decode cL_law 116 = .ok (.iaload, 1) := by decide +kernel
theorem dL_law_117 : decode cL_law 117 = .ok (.aload_n 0, 1) := by decide +kernel
theorem dL_law_118 : decode cL_law 118 = .ok (.iload_n 3, 1) := by decide +kernel
theorem dL_law_119 : decode cL_law 119 = .ok (.iconst 2, 1) := by decide +kernel
theorem dL_law_120 : decode cL_law 120 = .ok (.iadd, 1) := by decide +kernel
theorem dL_law_121 : decode cL_law 121 = .ok (.iaload, 1) := by decide +kernel
theorem dL_law_122 : decode cL_law 122 = .ok (.invokevirtual 18, 3) := by decide +kernel
theorem dL_law_125 : decode cL_law 125 = .ok (.aload_n 2, 1) := by decide +kernel
theorem dL_law_126 : decode cL_law 126 = .ok (.aload_n 0, 1) := by decide +kernel
theorem dL_law_127 : decode cL_law 127 = .ok (.iload_n 3, 1) := by decide +kernel
theorem dL_law_128 : decode cL_law 128 = .ok (.iconst 1, 1) := by decide +kernel
theorem dL_law_129 : decode cL_law 129 = .ok (.iadd, 1) := by decide +kernel
theorem dL_law_130 : decode cL_law 130 = .ok (.iaload, 1) := by decide +kernel
theorem dL_law_131 : decode cL_law 131 = .ok (.aload_n 0, 1) := by decide +kernel
theorem dL_law_132 : decode cL_law 132 = .ok (.iload_n 3, 1) := by decide +kernel
theorem dL_law_133 : decode cL_law 133 = .ok (.iconst 2, 1) := by decide +kernel
theorem dL_law_134 : decode cL_law 134 = .ok (.iadd, 1) := by decide +kernel
theorem dL_law_135 : decode cL_law 135 = .ok (.iaload, 1) := by decide +kernel
theorem dL_law_136 : decode cL_law 136 = .ok (.invokevirtual 22, 3) := by decide +kernel
theorem dL_law_139 : decode cL_law 139 = .ok (.if_icmp .eq 329, 3) := by decide +kernel
theorem dL_law_142 : decode cL_law 142 = .ok (.iconst 0, 1) := by decide +kernel
theorem dL_law_143 : decode cL_law 143 = .ok (.ireturn, 1) := by decide +kernel
theorem dL_law_144 : decode cL_law 144 = .ok (.aload_n 1, 1) := by decide +kernel
theorem dL_law_145 : decode cL_law 145 = .ok (.aload_n 0, 1) := by decide +kernel
theorem dL_law_146 : decode cL_law 146 = .ok (.iload_n 3, 1) := by decide +kernel
theorem dL_law_147 : decode cL_law 147 = .ok (.iconst 1, 1) := by decide +kernel
theorem dL_law_148 : decode cL_law 148 = .ok (.iadd, 1) := by decide +kernel
theorem dL_law_149 : decode cL_law 149 = .ok (.iaload, 1) := by decide +kernel
theorem dL_law_150 : decode cL_law 150 = .ok (.aload_n 0, 1) := by decide +kernel
theorem dL_law_151 : decode cL_law 151 = .ok (.iload_n 3, 1) := by decide +kernel
theorem dL_law_152 : decode cL_law 152 = .ok (.iconst 2, 1) := by decide +kernel
theorem dL_law_153 : decode cL_law 153 = .ok (.iadd, 1) := by decide +kernel
theorem dL_law_154 : decode cL_law 154 = .ok (.iaload, 1) := by decide +kernel
theorem dL_law_155 : decode cL_law 155 = .ok (.aload_n 0, 1) := by decide +kernel
theorem dL_law_156 : decode cL_law 156 = .ok (.iload_n 3, 1) := by decide +kernel
theorem dL_law_157 : decode cL_law 157 = .ok (.iconst 3, 1) := by decide +kernel
theorem dL_law_158 : decode cL_law 158 = .ok (.iadd, 1) := by decide +kernel
theorem dL_law_159 : decode cL_law 159 = .ok (.iaload, 1) := by decide +kernel
theorem dL_law_160 : decode cL_law 160 = .ok (.aload_n 0, 1) := by decide +kernel
theorem dL_law_161 : decode cL_law 161 = .ok (.iload_n 3, 1) := by decide +kernel
theorem dL_law_162 : decode cL_law 162 = .ok (.iconst 4, 1) := by decide +kernel
theorem dL_law_163 : decode cL_law 163 = .ok (.iadd, 1) := by decide +kernel
theorem dL_law_164 : decode cL_law 164 = .ok (.iaload, 1) := by decide +kernel
theorem dL_law_165 : decode cL_law 165 = .ok (.invokevirtual 23, 3) := by decide +kernel
theorem dL_law_168 : decode cL_law 168 = .ok (.aload_n 2, 1) := by decide +kernel
theorem dL_law_169 : decode cL_law 169 = .ok (.aload_n 0, 1) := by decide +kernel
theorem dL_law_170 : decode cL_law 170 = .ok (.iload_n 3, 1) := by decide +kernel
theorem dL_law_171 : decode cL_law 171 = .ok (.iconst 1, 1) := by decide +kernel
theorem dL_law_172 : decode cL_law 172 = .ok (.iadd, 1) := by decide +kernel
theorem dL_law_173 : decode cL_law 173 = .ok (.iaload, 1) := by decide +kernel
theorem dL_law_174 : decode cL_law 174 = .ok (.aload_n 0, 1) := by decide +kernel
theorem dL_law_175 : decode cL_law 175 = .ok (.iload_n 3, 1) := by decide +kernel
theorem dL_law_176 : decode cL_law 176 = .ok (.iconst 2, 1) := by decide +kernel
theorem dL_law_177 : decode cL_law 177 = .ok (.iadd, 1) := by decide +kernel
theorem dL_law_178 : decode cL_law 178 = .ok (.iaload, 1) := by decide +kernel
theorem dL_law_179 : decode cL_law 179 = .ok (.aload_n 0, 1) := by decide +kernel
theorem dL_law_180 : decode cL_law 180 = .ok (.iload_n 3, 1) := by decide +kernel
theorem dL_law_181 : decode cL_law 181 = .ok (.iconst 3, 1) := by decide +kernel
theorem dL_law_182 : decode cL_law 182 = .ok (.iadd, 1) := by decide +kernel
theorem dL_law_183 : decode cL_law 183 = .ok (.iaload, 1) := by decide +kernel
theorem dL_law_184 : decode cL_law 184 = .ok (.aload_n 0, 1) := by decide +kernel
theorem dL_law_185 : decode cL_law 185 = .ok (.iload_n 3, 1) := by decide +kernel
theorem dL_law_186 : decode cL_law 186 = .ok (.iconst 4, 1) := by decide +kernel
theorem dL_law_187 : decode cL_law 187 = .ok (.iadd, 1) := by decide +kernel
theorem dL_law_188 : decode cL_law 188 = .ok (.iaload, 1) := by decide +kernel
theorem dL_law_189 : decode cL_law 189 = .ok (.invokevirtual 27, 3) := by decide +kernel
theorem dL_law_192 : decode cL_law 192 = .ok (.if_icmp .eq 276, 3) := by decide +kernel
theorem dL_law_195 : decode cL_law 195 = .ok (.iconst 0, 1) := by decide +kernel
theorem dL_law_196 : decode cL_law 196 = .ok (.ireturn, 1) := by decide +kernel
theorem dL_law_197 : decode cL_law 197 = .ok (.aload_n 1, 1) := by decide +kernel
theorem dL_law_198 : decode cL_law 198 = .ok (.aload_n 0, 1) := by decide +kernel
theorem dL_law_199 : decode cL_law 199 = .ok (.iload_n 3, 1) := by decide +kernel
theorem dL_law_200 : decode cL_law 200 = .ok (.iconst 1, 1) := by decide +kernel
theorem dL_law_201 : decode cL_law 201 = .ok (.iadd, 1) := by decide +kernel
theorem dL_law_202 : decode cL_law 202 = .ok (.iaload, 1) := by decide +kernel
theorem dL_law_203 : decode cL_law 203 = .ok (.aload_n 0, 1) := by decide +kernel
theorem dL_law_204 : decode cL_law 204 = .ok (.iload_n 3, 1) := by decide +kernel
theorem dL_law_205 : decode cL_law 205 = .ok (.iconst 2, 1) := by decide +kernel
theorem dL_law_206 : decode cL_law 206 = .ok (.iadd, 1) := by decide +kernel
theorem dL_law_207 : decode cL_law 207 = .ok (.iaload, 1) := by decide +kernel
theorem dL_law_208 : decode cL_law 208 = .ok (.invokevirtual 28, 3) := by decide +kernel
theorem dL_law_211 : decode cL_law 211 = .ok (.aload_n 2, 1) := by decide +kernel
theorem dL_law_212 : decode cL_law 212 = .ok (.aload_n 0, 1) := by decide +kernel
theorem dL_law_213 : decode cL_law 213 = .ok (.iload_n 3, 1) := by decide +kernel
theorem dL_law_214 : decode cL_law 214 = .ok (.iconst 1, 1) := by decide +kernel
theorem dL_law_215 : decode cL_law 215 = .ok (.iadd, 1) := by decide +kernel
theorem dL_law_216 : decode cL_law 216 = .ok (.iaload, 1) := by decide +kernel
theorem dL_law_217 : decode cL_law 217 = .ok (.aload_n 0, 1) := by decide +kernel
theorem dL_law_218 : decode cL_law 218 = .ok (.iload_n 3, 1) := by decide +kernel
theorem dL_law_219 : decode cL_law 219 = .ok (.iconst 2, 1) := by decide +kernel
theorem dL_law_220 : decode cL_law 220 = .ok (.iadd, 1) := by decide +kernel
theorem dL_law_221 : decode cL_law 221 = .ok (.iaload, 1) := by decide +kernel
theorem dL_law_222 : decode cL_law 222 = .ok (.invokevirtual 31, 3) := by decide +kernel
theorem dL_law_225 : decode cL_law 225 = .ok (.if_icmp .eq 243, 3) := by decide +kernel
theorem dL_law_228 : decode cL_law 228 = .ok (.iconst 0, 1) := by decide +kernel
theorem dL_law_229 : decode cL_law 229 = .ok (.ireturn, 1) := by decide +kernel
theorem dL_law_230 : decode cL_law 230 = .ok (.aload_n 1, 1) := by decide +kernel
theorem dL_law_231 : decode cL_law 231 = .ok (.aload_n 0, 1) := by decide +kernel
theorem dL_law_232 : decode cL_law 232 = .ok (.iload_n 3, 1) := by decide +kernel
theorem dL_law_233 : decode cL_law 233 = .ok (.iconst 1, 1) := by decide +kernel
theorem dL_law_234 : decode cL_law 234 = .ok (.iadd, 1) := by decide +kernel
theorem dL_law_235 : decode cL_law 235 = .ok (.iaload, 1) := by decide +kernel
theorem dL_law_236 : decode cL_law 236 = .ok (.aload_n 0, 1) := by decide +kernel
theorem dL_law_237 : decode cL_law 237 = .ok (.iload_n 3, 1) := by decide +kernel
theorem dL_law_238 : decode cL_law 238 = .ok (.iconst 2, 1) := by decide +kernel
theorem dL_law_239 : decode cL_law 239 = .ok (.iadd, 1) := by decide +kernel
theorem dL_law_240 : decode cL_law 240 = .ok (.iaload, 1) := by decide +kernel
theorem dL_law_241 : decode cL_law 241 = .ok (.invokevirtual 32, 3) := by decide +kernel
theorem dL_law_244 : decode cL_law 244 = .ok (.aload_n 2, 1) := by decide +kernel
theorem dL_law_245 : decode cL_law 245 = .ok (.aload_n 0, 1) := by decide +kernel
theorem dL_law_246 : decode cL_law 246 = .ok (.iload_n 3, 1) := by decide +kernel
theorem dL_law_247 : decode cL_law 247 = .ok (.iconst 1, 1) := by decide +kernel
theorem dL_law_248 : decode cL_law 248 = .ok (.iadd, 1) := by decide +kernel
theorem dL_law_249 : decode cL_law 249 = .ok (.iaload, 1) := by decide +kernel
theorem dL_law_250 : decode cL_law 250 = .ok (.aload_n 0, 1) := by decide +kernel
theorem dL_law_251 : decode cL_law 251 = .ok (.iload_n 3, 1) := by decide +kernel
theorem dL_law_252 : decode cL_law 252 = .ok (.iconst 2, 1) := by decide +kernel
theorem dL_law_253 : decode cL_law 253 = .ok (.iadd, 1) := by decide +kernel
theorem dL_law_254 : decode cL_law 254 = .ok (.iaload, 1) := by decide +kernel
theorem dL_law_255 : decode cL_law 255 = .ok (.invokevirtual 36, 3) := by decide +kernel
theorem dL_law_258 : decode cL_law 258 = .ok (.if_icmp .eq 210, 3) := by decide +kernel
theorem dL_law_261 : decode cL_law 261 = .ok (.iconst 0, 1) := by decide +kernel
theorem dL_law_262 : decode cL_law 262 = .ok (.ireturn, 1) := by decide +kernel
theorem dL_law_263 : decode cL_law 263 = .ok (.aload_n 1, 1) := by decide +kernel
theorem dL_law_264 : decode cL_law 264 = .ok (.aload_n 0, 1) := by decide +kernel
theorem dL_law_265 : decode cL_law 265 = .ok (.iload_n 3, 1) := by decide +kernel
theorem dL_law_266 : decode cL_law 266 = .ok (.iconst 1, 1) := by decide +kernel
theorem dL_law_267 : decode cL_law 267 = .ok (.iadd, 1) := by decide +kernel
theorem dL_law_268 : decode cL_law 268 = .ok (.iaload, 1) := by decide +kernel
theorem dL_law_269 : decode cL_law 269 = .ok (.aload_n 0, 1) := by decide +kernel
theorem dL_law_270 : decode cL_law 270 = .ok (.iload_n 3, 1) := by decide +kernel
theorem dL_law_271 : decode cL_law 271 = .ok (.iconst 2, 1) := by decide +kernel
theorem dL_law_272 : decode cL_law 272 = .ok (.iadd, 1) := by decide +kernel
theorem dL_law_273 : decode cL_law 273 = .ok (.iaload, 1) := by decide +kernel
theorem dL_law_274 : decode cL_law 274 = .ok (.aload_n 0, 1) := by decide +kernel
theorem dL_law_275 : decode cL_law 275 = .ok (.iload_n 3, 1) := by decide +kernel
theorem dL_law_276 : decode cL_law 276 = .ok (.iconst 3, 1) := by decide +kernel
theorem dL_law_277 : decode cL_law 277 = .ok (.iadd, 1) := by decide +kernel
theorem dL_law_278 : decode cL_law 278 = .ok (.iaload, 1) := by decide +kernel
theorem dL_law_279 : decode cL_law 279 = .ok (.aload_n 0, 1) := by decide +kernel
theorem dL_law_280 : decode cL_law 280 = .ok (.iload_n 3, 1) := by decide +kernel
theorem dL_law_281 : decode cL_law 281 = .ok (.iconst 4, 1) := by decide +kernel
theorem dL_law_282 : decode cL_law 282 = .ok (.iadd, 1) := by decide +kernel
theorem dL_law_283 : decode cL_law 283 = .ok (.iaload, 1) := by decide +kernel
theorem dL_law_284 : decode cL_law 284 = .ok (.invokevirtual 37, 3) := by decide +kernel
theorem dL_law_287 : decode cL_law 287 = .ok (.aload_n 2, 1) := by decide +kernel
theorem dL_law_288 : decode cL_law 288 = .ok (.aload_n 0, 1) := by decide +kernel
theorem dL_law_289 : decode cL_law 289 = .ok (.iload_n 3, 1) := by decide +kernel
theorem dL_law_290 : decode cL_law 290 = .ok (.iconst 1, 1) := by decide +kernel
theorem dL_law_291 : decode cL_law 291 = .ok (.iadd, 1) := by decide +kernel
theorem dL_law_292 : decode cL_law 292 = .ok (.iaload, 1) := by decide +kernel
theorem dL_law_293 : decode cL_law 293 = .ok (.aload_n 0, 1) := by decide +kernel
theorem dL_law_294 : decode cL_law 294 = .ok (.iload_n 3, 1) := by decide +kernel
theorem dL_law_295 : decode cL_law 295 = .ok (.iconst 2, 1) := by decide +kernel
theorem dL_law_296 : decode cL_law 296 = .ok (.iadd, 1) := by decide +kernel
theorem dL_law_297 : decode cL_law 297 = .ok (.iaload, 1) := by decide +kernel
theorem dL_law_298 : decode cL_law 298 = .ok (.aload_n 0, 1) := by decide +kernel
theorem dL_law_299 : decode cL_law 299 = .ok (.iload_n 3, 1) := by decide +kernel
theorem dL_law_300 : decode cL_law 300 = .ok (.iconst 3, 1) := by decide +kernel
theorem dL_law_301 : decode cL_law 301 = .ok (.iadd, 1) := by decide +kernel
theorem dL_law_302 : decode cL_law 302 = .ok (.iaload, 1) := by decide +kernel
theorem dL_law_303 : decode cL_law 303 = .ok (.aload_n 0, 1) := by decide +kernel
theorem dL_law_304 : decode cL_law 304 = .ok (.iload_n 3, 1) := by decide +kernel
theorem dL_law_305 : decode cL_law 305 = .ok (.iconst 4, 1) := by decide +kernel
theorem dL_law_306 : decode cL_law 306 = .ok (.iadd, 1) := by decide +kernel
theorem dL_law_307 : decode cL_law 307 = .ok (.iaload, 1) := by decide +kernel
theorem dL_law_308 : decode cL_law 308 = .ok (.invokevirtual 40, 3) := by decide +kernel
theorem dL_law_311 : decode cL_law 311 = .ok (.if_icmp .eq 157, 3) := by decide +kernel
theorem dL_law_314 : decode cL_law 314 = .ok (.iconst 0, 1) := by decide +kernel
theorem dL_law_315 : decode cL_law 315 = .ok (.ireturn, 1) := by decide +kernel
theorem dL_law_316 : decode cL_law 316 = .ok (.aload_n 1, 1) := by decide +kernel
theorem dL_law_317 : decode cL_law 317 = .ok (.aload_n 0, 1) := by decide +kernel
theorem dL_law_318 : decode cL_law 318 = .ok (.iload_n 3, 1) := by decide +kernel
theorem dL_law_319 : decode cL_law 319 = .ok (.iconst 1, 1) := by decide +kernel
theorem dL_law_320 : decode cL_law 320 = .ok (.iadd, 1) := by decide +kernel
theorem dL_law_321 : decode cL_law 321 = .ok (.iaload, 1) := by decide +kernel
theorem dL_law_322 : decode cL_law 322 = .ok (.aload_n 0, 1) := by decide +kernel
theorem dL_law_323 : decode cL_law 323 = .ok (.iload_n 3, 1) := by decide +kernel
theorem dL_law_324 : decode cL_law 324 = .ok (.iconst 2, 1) := by decide +kernel
theorem dL_law_325 : decode cL_law 325 = .ok (.iadd, 1) := by decide +kernel
theorem dL_law_326 : decode cL_law 326 = .ok (.iaload, 1) := by decide +kernel
theorem dL_law_327 : decode cL_law 327 = .ok (.aload_n 0, 1) := by decide +kernel
theorem dL_law_328 : decode cL_law 328 = .ok (.iload_n 3, 1) := by decide +kernel
theorem dL_law_329 : decode cL_law 329 = .ok (.iconst 3, 1) := by decide +kernel
theorem dL_law_330 : decode cL_law 330 = .ok (.iadd, 1) := by decide +kernel
theorem dL_law_331 : decode cL_law 331 = .ok (.iaload, 1) := by decide +kernel
theorem dL_law_332 : decode cL_law 332 = .ok (.aload_n 0, 1) := by decide +kernel
theorem dL_law_333 : decode cL_law 333 = .ok (.iload_n 3, 1) := by decide +kernel
theorem dL_law_334 : decode cL_law 334 = .ok (.iconst 4, 1) := by decide +kernel
theorem dL_law_335 : decode cL_law 335 = .ok (.iadd, 1) := by decide +kernel
theorem dL_law_336 : decode cL_law 336 = .ok (.iaload, 1) := by decide +kernel
theorem dL_law_337 : decode cL_law 337 = .ok (.aload_n 0, 1) := by decide +kernel
theorem dL_law_338 : decode cL_law 338 = .ok (.iload_n 3, 1) := by decide +kernel
theorem dL_law_339 : decode cL_law 339 = .ok (.iconst 5, 1) := by decide +kernel
theorem dL_law_340 : decode cL_law 340 = .ok (.iadd, 1) := by decide +kernel
theorem dL_law_341 : decode cL_law 341 = .ok (.iaload, 1) := by decide +kernel
theorem dL_law_342 : decode cL_law 342 = .ok (.invokevirtual 41, 3) := by decide +kernel
theorem dL_law_345 : decode cL_law 345 = .ok (.aload_n 2, 1) := by decide +kernel
theorem dL_law_346 : decode cL_law 346 = .ok (.aload_n 0, 1) := by decide +kernel
theorem dL_law_347 : decode cL_law 347 = .ok (.iload_n 3, 1) := by decide +kernel
theorem dL_law_348 : decode cL_law 348 = .ok (.iconst 1, 1) := by decide +kernel
theorem dL_law_349 : decode cL_law 349 = .ok (.iadd, 1) := by decide +kernel
theorem dL_law_350 : decode cL_law 350 = .ok (.iaload, 1) := by decide +kernel
theorem dL_law_351 : decode cL_law 351 = .ok (.aload_n 0, 1) := by decide +kernel
theorem dL_law_352 : decode cL_law 352 = .ok (.iload_n 3, 1) := by decide +kernel
theorem dL_law_353 : decode cL_law 353 = .ok (.iconst 2, 1) := by decide +kernel
theorem dL_law_354 : decode cL_law 354 = .ok (.iadd, 1) := by decide +kernel
theorem dL_law_355 : decode cL_law 355 = .ok (.iaload, 1) := by decide +kernel
theorem dL_law_356 : decode cL_law 356 = .ok (.aload_n 0, 1) := by decide +kernel
theorem dL_law_357 : decode cL_law 357 = .ok (.iload_n 3, 1) := by decide +kernel
theorem dL_law_358 : decode cL_law 358 = .ok (.iconst 3, 1) := by decide +kernel
theorem dL_law_359 : decode cL_law 359 = .ok (.iadd, 1) := by decide +kernel
theorem dL_law_360 : decode cL_law 360 = .ok (.iaload, 1) := by decide +kernel
theorem dL_law_361 : decode cL_law 361 = .ok (.aload_n 0, 1) := by decide +kernel
theorem dL_law_362 : decode cL_law 362 = .ok (.iload_n 3, 1) := by decide +kernel
theorem dL_law_363 : decode cL_law 363 = .ok (.iconst 4, 1) := by decide +kernel
theorem dL_law_364 : decode cL_law 364 = .ok (.iadd, 1) := by decide +kernel
theorem dL_law_365 : decode cL_law 365 = .ok (.iaload, 1) := by decide +kernel
theorem dL_law_366 : decode cL_law 366 = .ok (.aload_n 0, 1) := by decide +kernel
theorem dL_law_367 : decode cL_law 367 = .ok (.iload_n 3, 1) := by decide +kernel
theorem dL_law_368 : decode cL_law 368 = .ok (.iconst 5, 1) := by decide +kernel
theorem dL_law_369 : decode cL_law 369 = .ok (.iadd, 1) := by decide +kernel
theorem dL_law_370 : decode cL_law 370 = .ok (.iaload, 1) := by decide +kernel
theorem dL_law_371 : decode cL_law 371 = .ok (.invokevirtual 45, 3) := by decide +kernel
theorem dL_law_374 : decode cL_law 374 = .ok (.if_icmp .eq 94, 3) := by decide +kernel
theorem dL_law_377 : decode cL_law 377 = .ok (.iconst 0, 1) := by decide +kernel
theorem dL_law_378 : decode cL_law 378 = .ok (.ireturn, 1) := by decide +kernel
theorem dL_law_379 : decode cL_law 379 = .ok (.aload_n 1, 1) := by decide +kernel
theorem dL_law_380 : decode cL_law 380 = .ok (.aload_n 0, 1) := by decide +kernel
theorem dL_law_381 : decode cL_law 381 = .ok (.iload_n 3, 1) := by decide +kernel
theorem dL_law_382 : decode cL_law 382 = .ok (.iconst 1, 1) := by decide +kernel
theorem dL_law_383 : decode cL_law 383 = .ok (.iadd, 1) := by decide +kernel
theorem dL_law_384 : decode cL_law 384 = .ok (.iaload, 1) := by decide +kernel
theorem dL_law_385 : decode cL_law 385 = .ok (.invokevirtual 46, 3) := by decide +kernel
theorem dL_law_388 : decode cL_law 388 = .ok (.aload_n 2, 1) := by decide +kernel
theorem dL_law_389 : decode cL_law 389 = .ok (.aload_n 0, 1) := by decide +kernel
theorem dL_law_390 : decode cL_law 390 = .ok (.iload_n 3, 1) := by decide +kernel
theorem dL_law_391 : decode cL_law 391 = .ok (.iconst 1, 1) := by decide +kernel
theorem dL_law_392 : decode cL_law 392 = .ok (.iadd, 1) := by decide +kernel
theorem dL_law_393 : decode cL_law 393 = .ok (.iaload, 1) := by decide +kernel
theorem dL_law_394 : decode cL_law 394 = .ok (.invokevirtual 49, 3) := by decide +kernel
theorem dL_law_397 : decode cL_law 397 = .ok (.if_icmp .eq 71, 3) := by decide +kernel
theorem dL_law_400 : decode cL_law 400 = .ok (.iconst 0, 1) := by decide +kernel
theorem dL_law_401 : decode cL_law 401 = .ok (.ireturn, 1) := by decide +kernel
theorem dL_law_402 : decode cL_law 402 = .ok (.aload_n 1, 1) := by decide +kernel
theorem dL_law_403 : decode cL_law 403 = .ok (.aload_n 0, 1) := by decide +kernel
theorem dL_law_404 : decode cL_law 404 = .ok (.iload_n 3, 1) := by decide +kernel
theorem dL_law_405 : decode cL_law 405 = .ok (.iconst 1, 1) := by decide +kernel
theorem dL_law_406 : decode cL_law 406 = .ok (.iadd, 1) := by decide +kernel
theorem dL_law_407 : decode cL_law 407 = .ok (.iaload, 1) := by decide +kernel
theorem dL_law_408 : decode cL_law 408 = .ok (.aload_n 0, 1) := by decide +kernel
theorem dL_law_409 : decode cL_law 409 = .ok (.iload_n 3, 1) := by decide +kernel
theorem dL_law_410 : decode cL_law 410 = .ok (.iconst 2, 1) := by decide +kernel
theorem dL_law_411 : decode cL_law 411 = .ok (.iadd, 1) := by decide +kernel
theorem dL_law_412 : decode cL_law 412 = .ok (.iaload, 1) := by decide +kernel
theorem dL_law_413 : decode cL_law 413 = .ok (.aload_n 0, 1) := by decide +kernel
theorem dL_law_414 : decode cL_law 414 = .ok (.iload_n 3, 1) := by decide +kernel
theorem dL_law_415 : decode cL_law 415 = .ok (.iconst 3, 1) := by decide +kernel
theorem dL_law_416 : decode cL_law 416 = .ok (.iadd, 1) := by decide +kernel
theorem dL_law_417 : decode cL_law 417 = .ok (.iaload, 1) := by decide +kernel
theorem dL_law_418 : decode cL_law 418 = .ok (.aload_n 0, 1) := by decide +kernel
theorem dL_law_419 : decode cL_law 419 = .ok (.iload_n 3, 1) := by decide +kernel
theorem dL_law_420 : decode cL_law 420 = .ok (.iconst 4, 1) := by decide +kernel
theorem dL_law_421 : decode cL_law 421 = .ok (.iadd, 1) := by decide +kernel
theorem dL_law_422 : decode cL_law 422 = .ok (.iaload, 1) := by decide +kernel
theorem dL_law_423 : decode cL_law 423 = .ok (.invokevirtual 50, 3) := by decide +kernel
theorem dL_law_426 : decode cL_law 426 = .ok (.aload_n 2, 1) := by decide +kernel
theorem dL_law_427 : decode cL_law 427 = .ok (.aload_n 0, 1) := by decide +kernel
theorem dL_law_428 : decode cL_law 428 = .ok (.iload_n 3, 1) := by decide +kernel
theorem dL_law_429 : decode cL_law 429 = .ok (.iconst 1, 1) := by decide +kernel
theorem dL_law_430 : decode cL_law 430 = .ok (.iadd, 1) := by decide +kernel
theorem dL_law_431 : decode cL_law 431 = .ok (.iaload, 1) := by decide +kernel
theorem dL_law_432 : decode cL_law 432 = .ok (.aload_n 0, 1) := by decide +kernel
theorem dL_law_433 : decode cL_law 433 = .ok (.iload_n 3, 1) := by decide +kernel
theorem dL_law_434 : decode cL_law 434 = .ok (.iconst 2, 1) := by decide +kernel
theorem dL_law_435 : decode cL_law 435 = .ok (.iadd, 1) := by decide +kernel
theorem dL_law_436 : decode cL_law 436 = .ok (.iaload, 1) := by decide +kernel
theorem dL_law_437 : decode cL_law 437 = .ok (.aload_n 0, 1) := by decide +kernel
theorem dL_law_438 : decode cL_law 438 = .ok (.iload_n 3, 1) := by decide +kernel
theorem dL_law_439 : decode cL_law 439 = .ok (.iconst 3, 1) := by decide +kernel
theorem dL_law_440 : decode cL_law 440 = .ok (.iadd, 1) := by decide +kernel
theorem dL_law_441 : decode cL_law 441 = .ok (.iaload, 1) := by decide +kernel
theorem dL_law_442 : decode cL_law 442 = .ok (.aload_n 0, 1) := by decide +kernel
theorem dL_law_443 : decode cL_law 443 = .ok (.iload_n 3, 1) := by decide +kernel
theorem dL_law_444 : decode cL_law 444 = .ok (.iconst 4, 1) := by decide +kernel
theorem dL_law_445 : decode cL_law 445 = .ok (.iadd, 1) := by decide +kernel
theorem dL_law_446 : decode cL_law 446 = .ok (.iaload, 1) := by decide +kernel
theorem dL_law_447 : decode cL_law 447 = .ok (.invokevirtual 53, 3) := by decide +kernel
theorem dL_law_450 : decode cL_law 450 = .ok (.if_icmp .eq 18, 3) := by decide +kernel
theorem dL_law_453 : decode cL_law 453 = .ok (.iconst 0, 1) := by decide +kernel
theorem dL_law_454 : decode cL_law 454 = .ok (.ireturn, 1) := by decide +kernel
theorem dL_law_455 : decode cL_law 455 = .ok (.aload_n 1, 1) := by decide +kernel
theorem dL_law_456 : decode cL_law 456 = .ok (.invokevirtual 54, 3) := by decide +kernel
theorem dL_law_459 : decode cL_law 459 = .ok (.aload_n 2, 1) := by decide +kernel
theorem dL_law_460 : decode cL_law 460 = .ok (.invokevirtual 58, 3) := by decide +kernel
theorem dL_law_463 : decode cL_law 463 = .ok (.if_icmp .eq 5, 3) := by decide +kernel
theorem dL_law_466 : decode cL_law 466 = .ok (.iconst 0, 1) := by decide +kernel
theorem dL_law_467 : decode cL_law 467 = .ok (.ireturn, 1) := by decide +kernel
theorem dL_law_468 : decode cL_law 468 = .ok (.iinc 3 6, 3) := by decide +kernel
theorem dL_law_471 : decode cL_law 471 = .ok (.goto (-453), 3) := by decide +kernel
theorem dL_law_474 : decode cL_law 474 = .ok (.iconst 1, 1) := by decide +kernel
theorem dL_law_475 : decode cL_law 475 = .ok (.ireturn, 1) := by decide +kernel
