theorem dL_law_0 : decode cL_law 0 = .ok (.new 7, 3) := by decide +kernel
theorem dL_law_3 : decode cL_law 3 = .ok (.dup, 1) := by decide +kernel
theorem dL_law_4 : decode cL_law 4 = .ok (.invokespecial 9, 3) := by decide +kernel
theorem dL_law_7 : decode cL_law 7 = .ok (.astore_n 1, 1) := by decide +kernel
theorem dL_law_8 : decode cL_law 8 = .ok (.new 10, 3) := by decide +kernel
theorem dL_law_11 : decode cL_law 11 = .ok (.dup, 1) := by decide +kernel
theorem dL_law_12 : decode cL_law 12 = .ok (.invokespecial 12, 3) := by decide +kernel
theorem dL_law_15 : decode cL_law 15 = .ok (.astore_n 2, 1) := by decide +kernel
theorem dL_law_16 : decode cL_law 16 = .ok (.iconst 0, 1) := by decide +kernel
theorem dL_law_17 : decode cL_law 17 = .ok (.istore_n 3, 1) := by decide +kernel
theorem dL_law_18 : decode cL_law 18 = .ok (.iload_n 3, 1) := by decide +kernel
theorem dL_law_19 : decode cL_law 19 = .ok (.aload_n 0, 1) := by decide +kernel
theorem dL_law_20 : decode cL_law 20 = .ok (.arraylength, 1) := by decide +kernel
theorem dL_law_21 : decode cL_law 21 = .ok (.iconst 4, 1) := by decide +kernel
theorem dL_law_22 : decode cL_law 22 = .ok (.isub, 1) := by decide +kernel
theorem dL_law_23 : decode cL_law 23 = .ok (.if_icmp .gt 1028, 3) := by decide +kernel
theorem dL_law_26 : decode cL_law 26 = .ok (.aload_n 0, 1) := by decide +kernel
theorem dL_law_27 : decode cL_law 27 = .ok (.iload_n 3, 1) := by decide +kernel
theorem dL_law_28 : decode cL_law 28 = .ok (.iaload, 1) := by decide +kernel
theorem dL_law_29 : decode cL_law 29 = .ok (.bipush 31, 2) := by decide +kernel
theorem dL_law_31 : decode cL_law 31 = .ok (.iand, 1) := by decide +kernel
theorem dL_law_32 : decode cL_law 32 = .ok (.tableswitch 1013 0 30 #[140, 193, 216, 229, 242, 265, 288, 311, 344, 377, 420, 463, 496, 519, 542, 555, 578, 611, 644, 667, 690, 713, 736, 779, 792, 815, 838, 861, 904, 947, 990], 140) := by decide +kernel
theorem dL_law_172 : decode cL_law 172 = .ok (.aload_n 1, 1) := by decide +kernel
theorem dL_law_173 : decode cL_law 173 = .ok (.aload_n 0, 1) := by decide +kernel
theorem dL_law_174 : decode cL_law 174 = .ok (.iload_n 3, 1) := by decide +kernel
theorem dL_law_175 : decode cL_law 175 = .ok (.iconst 1, 1) := by decide +kernel
theorem dL_law_176 : decode cL_law 176 = .ok (.iadd, 1) := by decide +kernel
theorem dL_law_177 : decode cL_law 177 = .ok (.iaload, 1) := by decide +kernel
theorem dL_law_178 : decode cL_law 178 = .ok (.i2l, 1) := by decide +kernel
theorem dL_law_179 : decode cL_law 179 = .ok (.bipush 32, 2) := by decide +kernel
theorem dL_law_181 : decode cL_law 181 = .ok (.lshl, 1) := by decide +kernel
theorem dL_law_182 : decode cL_law 182 = .ok (.aload_n 0, 1) := by decide +kernel
theorem dL_law_183 : decode cL_law 183 = .ok (.iload_n 3, 1) := by decide +kernel
theorem dL_law_184 : decode cL_law 184 = .ok (.iconst 2, 1) := by decide +kernel
theorem dL_law_185 : decode cL_law 185 = .ok (.iadd, 1) := by decide +kernel
theorem dL_law_186 : decode cL_law 186 = .ok (.iaload, 1) := by decide +kernel
theorem dL_law_187 : decode cL_law 187 = .ok (.i2l, 1) := by decide +kernel
theorem dL_law_188 : decode cL_law 188 = .ok (.ldc2_w 13, 3) := by decide +kernel
theorem dL_law_191 : decode cL_law 191 = .ok (.land, 1) := by decide +kernel
theorem dL_law_192 : decode cL_law 192 = .ok (.lor, 1) := by decide +kernel
theorem dL_law_193 : decode cL_law 193 = .ok (.invokevirtual 15, 3) := by decide +kernel
theorem dL_law_196 : decode cL_law 196 = .ok (.aload_n 2, 1) := by decide +kernel
theorem dL_law_197 : decode cL_law 197 = .ok (.aload_n 0, 1) := by decide +kernel
theorem dL_law_198 : decode cL_law 198 = .ok (.iload_n 3, 1) := by decide +kernel
theorem dL_law_199 : decode cL_law 199 = .ok (.iconst 1, 1) := by decide +kernel
theorem dL_law_200 : decode cL_law 200 = .ok (.iadd, 1) := by decide +kernel
theorem dL_law_201 : decode cL_law 201 = .ok (.iaload, 1) := by decide +kernel
theorem dL_law_202 : decode cL_law 202 = .ok (.i2l, 1) := by decide +kernel
theorem dL_law_203 : decode cL_law 203 = .ok (.bipush 32, 2) := by decide +kernel
theorem dL_law_205 : decode cL_law 205 = .ok (.lshl, 1) := by decide +kernel
theorem dL_law_206 : decode cL_law 206 = .ok (.aload_n 0, 1) := by decide +kernel
theorem dL_law_207 : decode cL_law 207 = .ok (.iload_n 3, 1) := by decide +kernel
theorem dL_law_208 : decode cL_law 208 = .ok (.iconst 2, 1) := by decide +kernel
theorem dL_law_209 : decode cL_law 209 = .ok (.iadd, 1) := by decide +kernel
theorem dL_law_210 : decode cL_law 210 = .ok (.iaload, 1) := by decide +kernel
theorem dL_law_211 : decode cL_law 211 = .ok (.i2l, 1) := by decide +kernel
theorem dL_law_212 : decode cL_law 212 = .ok (.ldc2_w 13, 3) := by decide +kernel
theorem dL_law_215 : decode cL_law 215 = .ok (.land, 1) := by decide +kernel
theorem dL_law_216 : decode cL_law 216 = .ok (.lor, 1) := by decide +kernel
theorem dL_law_217 : decode cL_law 217 = .ok (.invokevirtual 19, 3) := by decide +kernel
theorem dL_law_220 : decode cL_law 220 = .ok (.if_icmp .eq 825, 3) := by decide +kernel
theorem dL_law_223 : decode cL_law 223 = .ok (.iconst 0, 1) := by decide +kernel
theorem dL_law_224 : decode cL_law 224 = .ok (.ireturn, 1) := by decide +kernel
theorem dL_law_225 : decode cL_law 225 = .ok (.aload_n 1, 1) := by decide +kernel
theorem dL_law_226 : decode cL_law 226 = .ok (.aload_n 0, 1) := by decide +kernel
theorem dL_law_227 : decode cL_law 227 = .ok (.iload_n 3, 1) := by decide +kernel
theorem dL_law_228 : decode cL_law 228 = .ok (.iconst 1, 1) := by decide +kernel
theorem dL_law_229 : decode cL_law 229 = .ok (.iadd, 1) := by decide +kernel
theorem dL_law_230 : decode cL_law 230 = .ok (.iaload, 1) := by decide +kernel
theorem dL_law_231 : decode cL_law 231 = .ok (.invokevirtual 20, 3) := by decide +kernel
theorem dL_law_234 : decode cL_law 234 = .ok (.aload_n 2, 1) := by decide +kernel
theorem dL_law_235 : decode cL_law 235 = .ok (.aload_n 0, 1) := by decide +kernel
theorem dL_law_236 : decode cL_law 236 = .ok (.iload_n 3, 1) := by decide +kernel
theorem dL_law_237 : decode cL_law 237 = .ok (.iconst 1, 1) := by decide +kernel
theorem dL_law_238 : decode cL_law 238 = .ok (.iadd, 1) := by decide +kernel
theorem dL_law_239 : decode cL_law 239 = .ok (.iaload, 1) := by decide +kernel
theorem dL_law_240 : decode cL_law 240 = .ok (.invokevirtual 24, 3) := by decide +kernel
theorem dL_law_243 : decode cL_law 243 = .ok (.if_icmp .eq 802, 3) := by decide +kernel
theorem dL_law_246 : decode cL_law 246 = .ok (.iconst 0, 1) := by decide +kernel
theorem dL_law_247 : decode cL_law 247 = .ok (.ireturn, 1) := by decide +kernel
theorem dL_law_248 : decode cL_law 248 = .ok (.aload_n 1, 1) := by decide +kernel
theorem dL_law_249 : decode cL_law 249 = .ok (.invokevirtual 25, 3) := by decide +kernel
theorem dL_law_252 : decode cL_law 252 = .ok (.aload_n 2, 1) := by decide +kernel
theorem dL_law_253 : decode cL_law 253 = .ok (.invokevirtual 29, 3) := by decide +kernel
theorem dL_law_256 : decode cL_law 256 = .ok (.if_icmp .eq 789, 3) := by decide +kernel
theorem dL_law_259 : decode cL_law 259 = .ok (.iconst 0, 1) := by decide +kernel
theorem dL_law_260 : decode cL_law 260 = .ok (.ireturn, 1) := by decide +kernel
theorem dL_law_261 : decode cL_law 261 = .ok (.aload_n 1, 1) := by decide +kernel
theorem dL_law_262 : decode cL_law 262 = .ok (.invokevirtual 30, 3) := by decide +kernel
theorem dL_law_265 : decode cL_law 265 = .ok (.aload_n 2, 1) := by decide +kernel
theorem dL_law_266 : decode cL_law 266 = .ok (.invokevirtual 33, 3) := by decide +kernel
theorem dL_law_269 : decode cL_law 269 = .ok (.if_icmp .eq 776, 3) := by decide +kernel
theorem dL_law_272 : decode cL_law 272 = .ok (.iconst 0, 1) := by decide +kernel
theorem dL_law_273 : decode cL_law 273 = .ok (.ireturn, 1) := by decide +kernel
theorem dL_law_274 : decode cL_law 274 = .ok (.aload_n 1, 1) := by decide +kernel
theorem dL_law_275 : decode cL_law 275 = .ok (.aload_n 0, 1) := by decide +kernel
theorem dL_law_276 : decode cL_law 276 = .ok (.iload_n 3, 1) := by decide +kernel
theorem dL_law_277 : decode cL_law 277 = .ok (.iconst 1, 1) := by decide +kernel
theorem dL_law_278 : decode cL_law 278 = .ok (.iadd, 1) := by decide +kernel
theorem dL_law_279 : decode cL_law 279 = .ok (.iaload, 1) := by decide +kernel
theorem dL_law_280 : decode cL_law 280 = .ok (.invokevirtual 34, 3) := by decide +kernel
theorem dL_law_283 : decode cL_law 283 = .ok (.aload_n 2, 1) := by decide +kernel
theorem dL_law_284 : decode cL_law 284 = .ok (.aload_n 0, 1) := by decide +kernel
theorem dL_law_285 : decode cL_law 285 = .ok (.iload_n 3, 1) := by decide +kernel
theorem dL_law_286 : decode cL_law 286 = .ok (.iconst 1, 1) := by decide +kernel
theorem dL_law_287 : decode cL_law 287 = .ok (.iadd, 1) := by decide +kernel
theorem dL_law_288 : decode cL_law 288 = .ok (.iaload, 1) := by decide +kernel
theorem dL_law_289 : decode cL_law 289 = .ok (.invokevirtual 37, 3) := by decide +kernel
theorem dL_law_292 : decode cL_law 292 = .ok (.if_icmp .eq 753, 3) := by decide +kernel
theorem dL_law_295 : decode cL_law 295 = .ok (.iconst 0, 1) := by decide +kernel
theorem dL_law_296 : decode cL_law 296 = .ok (.ireturn, 1) := by decide +kernel
theorem dL_law_297 : decode cL_law 297 = .ok (.aload_n 1, 1) := by decide +kernel
theorem dL_law_298 : decode cL_law 298 = .ok (.aload_n 0, 1) := by decide +kernel
theorem dL_law_299 : decode cL_law 299 = .ok (.iload_n 3, 1) := by decide +kernel
theorem dL_law_300 : decode cL_law 300 = .ok (.iconst 1, 1) := by decide +kernel
theorem dL_law_301 : decode cL_law 301 = .ok (.iadd, 1) := by decide +kernel
theorem dL_law_302 : decode cL_law 302 = .ok (.iaload, 1) := by decide +kernel
theorem dL_law_303 : decode cL_law 303 = .ok (.invokevirtual 38, 3) := by decide +kernel
theorem dL_law_306 : decode cL_law 306 = .ok (.aload_n 2, 1) := by decide +kernel
theorem dL_law_307 : decode cL_law 307 = .ok (.aload_n 0, 1) := by decide +kernel
theorem dL_law_308 : decode cL_law 308 = .ok (.iload_n 3, 1) := by decide +kernel
theorem dL_law_309 : decode cL_law 309 = .ok (.iconst 1, 1) := by decide +kernel
theorem dL_law_310 : decode cL_law 310 = .ok (.iadd, 1) := by decide +kernel
theorem dL_law_311 : decode cL_law 311 = .ok (.iaload, 1) := by decide +kernel
theorem dL_law_312 : decode cL_law 312 = .ok (.invokevirtual 41, 3) := by decide +kernel
theorem dL_law_315 : decode cL_law 315 = .ok (.if_icmp .eq 730, 3) := by decide +kernel
theorem dL_law_318 : decode cL_law 318 = .ok (.iconst 0, 1) := by decide +kernel
theorem dL_law_319 : decode cL_law 319 = .ok (.ireturn, 1) := by decide +kernel
theorem dL_law_320 : decode cL_law 320 = .ok (.aload_n 1, 1) := by decide +kernel
theorem dL_law_321 : decode cL_law 321 = .ok (.aload_n 0, 1) := by decide +kernel
theorem dL_law_322 : decode cL_law 322 = .ok (.iload_n 3, 1) := by decide +kernel
theorem dL_law_323 : decode cL_law 323 = .ok (.iconst 1, 1) := by decide +kernel
theorem dL_law_324 : decode cL_law 324 = .ok (.iadd, 1) := by decide +kernel
theorem dL_law_325 : decode cL_law 325 = .ok (.iaload, 1) := by decide +kernel
theorem dL_law_326 : decode cL_law 326 = .ok (.invokevirtual 42, 3) := by decide +kernel
theorem dL_law_329 : decode cL_law 329 = .ok (.aload_n 2, 1) := by decide +kernel
theorem dL_law_330 : decode cL_law 330 = .ok (.aload_n 0, 1) := by decide +kernel
theorem dL_law_331 : decode cL_law 331 = .ok (.iload_n 3, 1) := by decide +kernel
theorem dL_law_332 : decode cL_law 332 = .ok (.iconst 1, 1) := by decide +kernel
theorem dL_law_333 : decode cL_law 333 = .ok (.iadd, 1) := by decide +kernel
theorem dL_law_334 : decode cL_law 334 = .ok (.iaload, 1) := by decide +kernel
theorem dL_law_335 : decode cL_law 335 = .ok (.invokevirtual 45, 3) := by decide +kernel
theorem dL_law_338 : decode cL_law 338 = .ok (.if_icmp .eq 707, 3) := by decide +kernel
theorem dL_law_341 : decode cL_law 341 = .ok (.iconst 0, 1) := by decide +kernel
theorem dL_law_342 : decode cL_law 342 = .ok (.ireturn, 1) := by decide +kernel
theorem dL_law_343 : decode cL_law 343 = .ok (.aload_n 1, 1) := by decide +kernel
theorem dL_law_344 : decode cL_law 344 = .ok (.aload_n 0, 1) := by decide +kernel
theorem dL_law_345 : decode cL_law 345 = .ok (.iload_n 3, 1) := by decide +kernel
theorem dL_law_346 : decode cL_law 346 = .ok (.iconst 1, 1) := by decide +kernel
theorem dL_law_347 : decode cL_law 347 = .ok (.iadd, 1) := by decide +kernel
theorem dL_law_348 : decode cL_law 348 = .ok (.iaload, 1) := by decide +kernel
theorem dL_law_349 : decode cL_law 349 = .ok (.aload_n 0, 1) := by decide +kernel
theorem dL_law_350 : decode cL_law 350 = .ok (.iload_n 3, 1) := by decide +kernel
theorem dL_law_351 : decode cL_law 351 = .ok (.iconst 2, 1) := by decide +kernel
theorem dL_law_352 : decode cL_law 352 = .ok (.iadd, 1) := by decide +kernel
theorem dL_law_353 : decode cL_law 353 = .ok (.iaload, 1) := by decide +kernel
theorem dL_law_354 : decode cL_law 354 = .ok (.invokevirtual 46, 3) := by decide +kernel
theorem dL_law_357 : decode cL_law 357 = .ok (.aload_n 2, 1) := by decide +kernel
theorem dL_law_358 : decode cL_law 358 = .ok (.aload_n 0, 1) := by decide +kernel
theorem dL_law_359 : decode cL_law 359 = .ok (.iload_n 3, 1) := by decide +kernel
theorem dL_law_360 : decode cL_law 360 = .ok (.iconst 1, 1) := by decide +kernel
theorem dL_law_361 : decode cL_law 361 = .ok (.iadd, 1) := by decide +kernel
theorem dL_law_362 : decode cL_law 362 = .ok (.iaload, 1) := by decide +kernel
theorem dL_law_363 : decode cL_law 363 = .ok (.aload_n 0, 1) := by decide +kernel
theorem dL_law_364 : decode cL_law 364 = .ok (.iload_n 3, 1) := by decide +kernel
theorem dL_law_365 : decode cL_law 365 = .ok (.iconst 2, 1) := by decide +kernel
theorem dL_law_366 : decode cL_law 366 = .ok (.iadd, 1) := by decide +kernel
theorem dL_law_367 : decode cL_law 367 = .ok (.iaload, 1) := by decide +kernel
theorem dL_law_368 : decode cL_law 368 = .ok (.invokevirtual 50, 3) := by decide +kernel
theorem dL_law_371 : decode cL_law 371 = .ok (.if_icmp .eq 674, 3) := by decide +kernel
theorem dL_law_374 : decode cL_law 374 = .ok (.iconst 0, 1) := by decide +kernel
theorem dL_law_375 : decode cL_law 375 = .ok (.ireturn, 1) := by decide +kernel
theorem dL_law_376 : decode cL_law 376 = .ok (.aload_n 1, 1) := by decide +kernel
theorem dL_law_377 : decode cL_law 377 = .ok (.aload_n 0, 1) := by decide +kernel
theorem dL_law_378 : decode cL_law 378 = .ok (.iload_n 3, 1) := by decide +kernel
theorem dL_law_379 : decode cL_law 379 = .ok (.iconst 1, 1) := by decide +kernel
theorem dL_law_380 : decode cL_law 380 = .ok (.iadd, 1) := by decide +kernel
theorem dL_law_381 : decode cL_law 381 = .ok (.iaload, 1) := by decide +kernel
theorem dL_law_382 : decode cL_law 382 = .ok (.aload_n 0, 1) := by decide +kernel
theorem dL_law_383 : decode cL_law 383 = .ok (.iload_n 3, 1) := by decide +kernel
theorem dL_law_384 : decode cL_law 384 = .ok (.iconst 2, 1) := by decide +kernel
theorem dL_law_385 : decode cL_law 385 = .ok (.iadd, 1) := by decide +kernel
theorem dL_law_386 : decode cL_law 386 = .ok (.iaload, 1) := by decide +kernel
theorem dL_law_387 : decode cL_law 387 = .ok (.invokevirtual 51, 3) := by decide +kernel
theorem dL_law_390 : decode cL_law 390 = .ok (.aload_n 2, 1) := by decide +kernel
theorem dL_law_391 : decode cL_law 391 = .ok (.aload_n 0, 1) := by decide +kernel
theorem dL_law_392 : decode cL_law 392 = .ok (.iload_n 3, 1) := by decide +kernel
theorem dL_law_393 : decode cL_law 393 = .ok (.iconst 1, 1) := by decide +kernel
theorem dL_law_394 : decode cL_law 394 = .ok (.iadd, 1) := by decide +kernel
theorem dL_law_395 : decode cL_law 395 = .ok (.iaload, 1) := by decide +kernel
theorem dL_law_396 : decode cL_law 396 = .ok (.aload_n 0, 1) := by decide +kernel
theorem dL_law_397 : decode cL_law 397 = .ok (.iload_n 3, 1) := by decide +kernel
theorem dL_law_398 : decode cL_law 398 = .ok (.iconst 2, 1) := by decide +kernel
theorem dL_law_399 : decode cL_law 399 = .ok (.iadd, 1) := by decide +kernel
theorem dL_law_400 : decode cL_law 400 = .ok (.iaload, 1) := by decide +kernel
theorem dL_law_401 : decode cL_law 401 = .ok (.invokevirtual 54, 3) := by decide +kernel
theorem dL_law_404 : decode cL_law 404 = .ok (.if_icmp .eq 641, 3) := by decide +kernel
theorem dL_law_407 : decode cL_law 407 = .ok (.iconst 0, 1) := by decide +kernel
theorem dL_law_408 : decode cL_law 408 = .ok (.ireturn, 1) := by decide +kernel
theorem dL_law_409 : decode cL_law 409 = .ok (.aload_n 1, 1) := by decide +kernel
theorem dL_law_410 : decode cL_law 410 = .ok (.aload_n 0, 1) := by decide +kernel
theorem dL_law_411 : decode cL_law 411 = .ok (.iload_n 3, 1) := by decide +kernel
theorem dL_law_412 : decode cL_law 412 = .ok (.iconst 1, 1) := by decide +kernel
theorem dL_law_413 : decode cL_law 413 = .ok (.iadd, 1) := by decide +kernel
theorem dL_law_414 : decode cL_law 414 = .ok (.iaload, 1) := by decide +kernel
theorem dL_law_415 : decode cL_law 415 = .ok (.aload_n 0, 1) := by decide +kernel
theorem dL_law_416 : decode cL_law 416 = .ok (.iload_n 3, 1) := by decide +kernel
theorem dL_law_417 : decode cL_law 417 = .ok (.iconst 2, 1) := by decide +kernel
theorem dL_law_418 : decode cL_law 418 = .ok (.iadd, 1) := by decide +kernel
theorem dL_law_419 : decode cL_law 419 = .ok (.iaload, 1) := by decide +kernel
theorem dL_law_420 : decode cL_law 420 = .ok (.aload_n 0, 1) := by decide +kernel
theorem dL_law_421 : decode cL_law 421 = .ok (.iload_n 3, 1) := by decide +kernel
theorem dL_law_422 : decode cL_law 422 = .ok (.iconst 3, 1) := by decide +kernel
theorem dL_law_423 : decode cL_law 423 = .ok (.iadd, 1) := by decide +kernel
theorem dL_law_424 : decode cL_law 424 = .ok (.iaload, 1) := by decide +kernel
theorem dL_law_425 : decode cL_law 425 = .ok (.invokevirtual 55, 3) := by decide +kernel
theorem dL_law_428 : decode cL_law 428 = .ok (.aload_n 2, 1) := by decide +kernel
theorem dL_law_429 : decode cL_law 429 = .ok (.aload_n 0, 1) := by decide +kernel
theorem dL_law_430 : decode cL_law 430 = .ok (.iload_n 3, 1) := by decide +kernel
theorem dL_law_431 : decode cL_law 431 = .ok (.iconst 1, 1) := by decide +kernel
theorem dL_law_432 : decode cL_law 432 = .ok (.iadd, 1) := by decide +kernel
theorem dL_law_433 : decode cL_law 433 = .ok (.iaload, 1) := by decide +kernel
theorem dL_law_434 : decode cL_law 434 = .ok (.aload_n 0, 1) := by decide +kernel
theorem dL_law_435 : decode cL_law 435 = .ok (.iload_n 3, 1) := by decide +kernel
theorem dL_law_436 : decode cL_law 436 = .ok (.iconst 2, 1) := by decide +kernel
theorem dL_law_437 : decode cL_law 437 = .ok (.iadd, 1) := by decide +kernel
theorem dL_law_438 : decode cL_law 438 = .ok (.iaload, 1) := by decide +kernel
theorem dL_law_439 : decode cL_law 439 = .ok (.aload_n 0, 1) := by decide +kernel
theorem dL_law_440 : decode cL_law 440 = .ok (.iload_n 3, 1) := by decide +kernel
theorem dL_law_441 : decode cL_law 441 = .ok (.iconst 3, 1) := by decide +kernel
theorem dL_law_442 : decode cL_law 442 = .ok (.iadd, 1) := by decide +kernel
theorem dL_law_443 : decode cL_law 443 = .ok (.iaload, 1) := by decide +kernel
theorem dL_law_444 : decode cL_law 444 = .ok (.invokevirtual 59, 3) := by decide +kernel
theorem dL_law_447 : decode cL_law 447 = .ok (.if_icmp .eq 598, 3) := by decide +kernel
theorem dL_law_450 : decode cL_law 450 = .ok (.iconst 0, 1) := by decide +kernel
theorem dL_law_451 : decode cL_law 451 = .ok (.ireturn, 1) := by decide +kernel
theorem dL_law_452 : decode cL_law 452 = .ok (.aload_n 1, 1) := by decide +kernel
theorem dL_law_453 : decode cL_law 453 = .ok (.aload_n 0, 1) := by decide +kernel
theorem dL_law_454 : decode cL_law 454 = .ok (.iload_n 3, 1) := by decide +kernel
theorem dL_law_455 : decode cL_law 455 = .ok (.iconst 1, 1) := by decide +kernel
theorem dL_law_456 : decode cL_law 456 = .ok (.iadd, 1) := by decide +kernel
theorem dL_law_457 : decode cL_law 457 = .ok (.iaload, 1) := by decide +kernel
theorem dL_law_458 : decode cL_law 458 = .ok (.aload_n 0, 1) := by decide +kernel
theorem dL_law_459 : decode cL_law 459 = .ok (.iload_n 3, 1) := by decide +kernel
theorem dL_law_460 : decode cL_law 460 = .ok (.iconst 2, 1) := by decide +kernel
theorem dL_law_461 : decode cL_law 461 = .ok (.iadd, 1) := by decide +kernel
theorem dL_law_462 : decode cL_law 462 = .ok (.iaload, 1) := by decide +kernel
theorem dL_law_463 : decode cL_law 463 = .ok (.aload_n 0, 1) := by decide +kernel
theorem dL_law_464 : decode cL_law 464 = .ok (.iload_n 3, 1) := by decide +kernel
theorem dL_law_465 : decode cL_law 465 = .ok (.iconst 3, 1) := by decide +kernel
theorem dL_law_466 : decode cL_law 466 = .ok (.iadd, 1) := by decide +kernel
theorem dL_law_467 : decode cL_law 467 = .ok (.iaload, 1) := by decide +kernel
theorem dL_law_468 : decode cL_law 468 = .ok (.invokevirtual 60, 3) := by decide +kernel
theorem dL_law_471 : decode cL_law 471 = .ok (.aload_n 2, 1) := by decide +kernel
theorem dL_law_472 : decode cL_law 472 = .ok (.aload_n 0, 1) := by decide +kernel
theorem dL_law_473 : decode cL_law 473 = .ok (.iload_n 3, 1) := by decide +kernel
theorem dL_law_474 : decode cL_law 474 = .ok (.iconst 1, 1) := by decide +kernel
theorem dL_law_475 : decode cL_law 475 = .ok (.iadd, 1) := by decide +kernel
theorem dL_law_476 : decode cL_law 476 = .ok (.iaload, 1) := by decide +kernel
theorem dL_law_477 : decode cL_law 477 = .ok (.aload_n 0, 1) := by decide +kernel
theorem dL_law_478 : decode cL_law 478 = .ok (.iload_n 3, 1) := by decide +kernel
theorem dL_law_479 : decode cL_law 479 = .ok (.iconst 2, 1) := by decide +kernel
theorem dL_law_480 : decode cL_law 480 = .ok (.iadd, 1) := by decide +kernel
theorem dL_law_481 : decode cL_law 481 = .ok (.iaload, 1) := by decide +kernel
theorem dL_law_482 : decode cL_law 482 = .ok (.aload_n 0, 1) := by decide +kernel
theorem dL_law_483 : decode cL_law 483 = .ok (.iload_n 3, 1) := by decide +kernel
theorem dL_law_484 : decode cL_law 484 = .ok (.iconst 3, 1) := by decide +kernel
theorem dL_law_485 : decode cL_law 485 = .ok (.iadd, 1) := by decide +kernel
theorem dL_law_486 : decode cL_law 486 = .ok (.iaload, 1) := by decide +kernel
theorem dL_law_487 : decode cL_law 487 = .ok (.invokevirtual 63, 3) := by decide +kernel
theorem dL_law_490 : decode cL_law 490 = .ok (.if_icmp .eq 555, 3) := by decide +kernel
theorem dL_law_493 : decode cL_law 493 = .ok (.iconst 0, 1) := by decide +kernel
theorem dL_law_494 : decode cL_law 494 = .ok (.ireturn, 1) := by decide +kernel
theorem dL_law_495 : decode cL_law 495 = .ok (.aload_n 1, 1) := by decide +kernel
theorem dL_law_496 : decode cL_law 496 = .ok (.aload_n 0, 1) := by decide +kernel
theorem dL_law_497 : decode cL_law 497 = .ok (.iload_n 3, 1) := by decide +kernel
theorem dL_law_498 : decode cL_law 498 = .ok (.iconst 1, 1) := by decide +kernel
theorem dL_law_499 : decode cL_law 499 = .ok (.iadd, 1) := by decide +kernel
theorem dL_law_500 : decode cL_law 500 = .ok (.iaload, 1) := by decide +kernel
theorem dL_law_501 : decode cL_law 501 = .ok (.aload_n 0, 1) := by decide +kernel
theorem dL_law_502 : decode cL_law 502 = .ok (.iload_n 3, 1) := by decide +kernel
theorem dL_law_503 : decode cL_law 503 = .ok (.iconst 2, 1) := by decide +kernel
theorem dL_law_504 : decode cL_law 504 = .ok (.iadd, 1) := by decide +kernel
theorem dL_law_505 : decode cL_law 505 = .ok (.iaload, 1) := by decide +kernel
theorem dL_law_506 : decode cL_law 506 = .ok (.invokevirtual 64, 3) := by decide +kernel
theorem dL_law_509 : decode cL_law 509 = .ok (.aload_n 2, 1) := by decide +kernel
theorem dL_law_510 : decode cL_law 510 = .ok (.aload_n 0, 1) := by decide +kernel
theorem dL_law_511 : decode cL_law 511 = .ok (.iload_n 3, 1) := by decide +kernel
theorem dL_law_512 : decode cL_law 512 = .ok (.iconst 1, 1) := by decide +kernel
theorem dL_law_513 : decode cL_law 513 = .ok (.iadd, 1) := by decide +kernel
theorem dL_law_514 : decode cL_law 514 = .ok (.iaload, 1) := by decide +kernel
theorem dL_law_515 : decode cL_law 515 = .ok (.aload_n 0, 1) := by decide +kernel
theorem dL_law_516 : decode cL_law 516 = .ok (.iload_n 3, 1) := by decide +kernel
theorem dL_law_517 : decode cL_law 517 = .ok (.iconst 2, 1) := by decide +kernel
theorem dL_law_518 : decode cL_law 518 = .ok (.iadd, 1) := by decide +kernel
theorem dL_law_519 : decode cL_law 519 = .ok (.iaload, 1) := by decide +kernel
theorem dL_law_520 : decode cL_law 520 = .ok (.invokevirtual 67, 3) := by decide +kernel
theorem dL_law_523 : decode cL_law 523 = .ok (.if_icmp .eq 522, 3) := by decide +kernel
theorem dL_law_526 : decode cL_law 526 = .ok (.iconst 0, 1) := by decide +kernel
theorem dL_law_527 : decode cL_law 527 = .ok (.ireturn, 1) := by decide +kernel
theorem dL_law_528 : decode cL_law 528 = .ok (.aload_n 1, 1) := by decide +kernel
theorem dL_law_529 : decode cL_law 529 = .ok (.aload_n 0, 1) := by decide +kernel
theorem dL_law_530 : decode cL_law 530 = .ok (.iload_n 3, 1) := by decide +kernel
theorem dL_law_531 : decode cL_law 531 = .ok (.iconst 1, 1) := by decide +kernel
theorem dL_law_532 : decode cL_law 532 = .ok (.iadd, 1) := by decide +kernel
theorem dL_law_533 : decode cL_law 533 = .ok (.iaload, 1) := by decide +kernel
theorem dL_law_534 : decode cL_law 534 = .ok (.invokevirtual 68, 3) := by decide +kernel
theorem dL_law_537 : decode cL_law 537 = .ok (.aload_n 2, 1) := by decide +kernel
theorem dL_law_538 : decode cL_law 538 = .ok (.aload_n 0, 1) := by decide +kernel
theorem dL_law_539 : decode cL_law 539 = .ok (.iload_n 3, 1) := by decide +kernel
theorem dL_law_540 : decode cL_law 540 = .ok (.iconst 1, 1) := by decide +kernel
theorem dL_law_541 : decode cL_law 541 = .ok (.iadd, 1) := by decide +kernel
theorem dL_law_542 : decode cL_law 542 = .ok (.iaload, 1) := by decide +kernel
theorem dL_law_543 : decode cL_law 543 = .ok (.invokevirtual 71, 3) := by decide +kernel
theorem dL_law_546 : decode cL_law 546 = .ok (.if_icmp .eq 499, 3) := by decide +kernel
theorem dL_law_549 : decode cL_law 549 = .ok (.iconst 0, 1) := by decide +kernel
theorem dL_law_550 : decode cL_law 550 = .ok (.ireturn, 1) := by decide +kernel
theorem dL_law_551 : decode cL_law 551 = .ok (.aload_n 1, 1) := by decide +kernel
theorem dL_law_552 : decode cL_law 552 = .ok (.aload_n 0, 1) := by decide +kernel
theorem dL_law_553 : decode cL_law 553 = .ok (.iload_n 3, 1) := by decide +kernel
theorem dL_law_554 : decode cL_law 554 = .ok (.iconst 1, 1) := by decide +kernel
theorem dL_law_555 : decode cL_law 555 = .ok (.iadd, 1) := by decide +kernel
theorem dL_law_556 : decode cL_law 556 = .ok (.iaload, 1) := by decide +kernel
theorem dL_law_557 : decode cL_law 557 = .ok (.invokevirtual 72, 3) := by decide +kernel
theorem dL_law_560 : decode cL_law 560 = .ok (.aload_n 2, 1) := by decide +kernel
theorem dL_law_561 : decode cL_law 561 = .ok (.aload_n 0, 1) := by decide +kernel
theorem dL_law_562 : decode cL_law 562 = .ok (.iload_n 3, 1) := by decide +kernel
theorem dL_law_563 : decode cL_law 563 = .ok (.iconst 1, 1) := by decide +kernel
theorem dL_law_564 : decode cL_law 564 = .ok (.iadd, 1) := by decide +kernel
theorem dL_law_565 : decode cL_law 565 = .ok (.iaload, 1) := by decide +kernel
theorem dL_law_566 : decode cL_law 566 = .ok (.invokevirtual 75, 3) := by decide +kernel
theorem dL_law_569 : decode cL_law 569 = .ok (.if_icmp .eq 476, 3) := by decide +kernel
theorem dL_law_572 : decode cL_law 572 = .ok (.iconst 0, 1) := by decide +kernel
theorem dL_law_573 : decode cL_law 573 = .ok (.ireturn, 1) := by decide +kernel
theorem dL_law_574 : decode cL_law 574 = .ok (.aload_n 1, 1) := by decide +kernel
theorem dL_law_575 : decode cL_law 575 = .ok (.invokevirtual 76, 3) := by decide +kernel
theorem dL_law_578 : decode cL_law 578 = .ok (.aload_n 2, 1) := by decide +kernel
theorem dL_law_579 : decode cL_law 579 = .ok (.invokevirtual 79, 3) := by decide +kernel
theorem dL_law_582 : decode cL_law 582 = .ok (.if_icmp .eq 463, 3) := by decide +kernel
theorem dL_law_585 : decode cL_law 585 = .ok (.iconst 0, 1) := by decide +kernel
theorem dL_law_586 : decode cL_law 586 = .ok (.ireturn, 1) := by decide +kernel
theorem dL_law_587 : decode cL_law 587 = .ok (.aload_n 1, 1) := by decide +kernel
theorem dL_law_588 : decode cL_law 588 = .ok (.aload_n 0, 1) := by decide +kernel
theorem dL_law_589 : decode cL_law 589 = .ok (.iload_n 3, 1) := by decide +kernel
theorem dL_law_590 : decode cL_law 590 = .ok (.iconst 1, 1) := by decide +kernel
theorem dL_law_591 : decode cL_law 591 = .ok (.iadd, 1) := by decide +kernel
theorem dL_law_592 : decode cL_law 592 = .ok (.iaload, 1) := by decide +kernel
theorem dL_law_593 : decode cL_law 593 = .ok (.invokevirtual 80, 3) := by decide +kernel
theorem dL_law_596 : decode cL_law 596 = .ok (.aload_n 2, 1) := by decide +kernel
theorem dL_law_597 : decode cL_law 597 = .ok (.aload_n 0, 1) := by decide +kernel
theorem dL_law_598 : decode cL_law 598 = .ok (.iload_n 3, 1) := by decide +kernel
theorem dL_law_599 : decode cL_law 599 = .ok (.iconst 1, 1) := by decide +kernel
theorem dL_law_600 : decode cL_law 600 = .ok (.iadd, 1) := by decide +kernel
theorem dL_law_601 : decode cL_law 601 = .ok (.iaload, 1) := by decide +kernel
theorem dL_law_602 : decode cL_law 602 = .ok (.invokevirtual 83, 3) := by decide +kernel
theorem dL_law_605 : decode cL_law 605 = .ok (.if_icmp .eq 440, 3) := by decide +kernel
theorem dL_law_608 : decode cL_law 608 = .ok (.iconst 0, 1) := by decide +kernel
theorem dL_law_609 : decode cL_law 609 = .ok (.ireturn, 1) := by decide +kernel
theorem dL_law_610 : decode cL_law 610 = .ok (.aload_n 1, 1) := by decide +kernel
theorem dL_law_611 : decode cL_law 611 = .ok (.aload_n 0, 1) := by decide +kernel
theorem dL_law_612 : decode cL_law 612 = .ok (.iload_n 3, 1) := by decide +kernel
theorem dL_law_613 : decode cL_law 613 = .ok (.iconst 1, 1) := by decide +kernel
theorem dL_law_614 : decode cL_law 614 = .ok (.iadd, 1) := by decide +kernel
theorem dL_law_615 : decode cL_law 615 = .ok (.iaload, 1) := by decide +kernel
theorem dL_law_616 : decode cL_law 616 = .ok (.aload_n 0, 1) := by decide +kernel
theorem dL_law_617 : decode cL_law 617 = .ok (.iload_n 3, 1) := by decide +kernel
theorem dL_law_618 : decode cL_law 618 = .ok (.iconst 2, 1) := by decide +kernel
theorem dL_law_619 : decode cL_law 619 = .ok (.iadd, 1) := by decide +kernel
theorem dL_law_620 : decode cL_law 620 = .ok (.iaload, 1) := by decide +kernel
theorem dL_law_621 : decode cL_law 621 = .ok (.invokevirtual 84, 3) := by decide +kernel
theorem dL_law_624 : decode cL_law 624 = .ok (.aload_n 2, 1) := by decide +kernel
theorem dL_law_625 : decode cL_law 625 = .ok (.aload_n 0, 1) := by decide +kernel
theorem dL_law_626 : decode cL_law 626 = .ok (.iload_n 3, 1) := by decide +kernel
theorem dL_law_627 : decode cL_law 627 = .ok (.iconst 1, 1) := by decide +kernel
theorem dL_law_628 : decode cL_law 628 = .ok (.iadd, 1) := by decide +kernel
theorem dL_law_629 : decode cL_law 629 = .ok (.iaload, 1) := by decide +kernel
theorem dL_law_630 : decode cL_law 630 = .ok (.aload_n 0, 1) := by decide +kernel
theorem dL_law_631 : decode cL_law 631 = .ok (.iload_n 3, 1) := by decide +kernel
theorem dL_law_632 : decode cL_law 632 = .ok (.iconst 2, 1) := by decide +kernel
theorem dL_law_633 : decode cL_law 633 = .ok (.iadd, 1) := by decide +kernel
theorem dL_law_634 : decode cL_law 634 = .ok (.iaload, 1) := by decide +kernel
theorem dL_law_635 : decode cL_law 635 = .ok (.invokevirtual 87, 3) := by decide +kernel
theorem dL_law_638 : decode cL_law 638 = .ok (.if_icmp .eq 407, 3) := by decide +kernel
theorem dL_law_641 : decode cL_law 641 = .ok (.iconst 0, 1) := by decide +kernel
theorem dL_law_642 : decode cL_law 642 = .ok (.ireturn, 1) := by decide +kernel
theorem dL_law_643 : decode cL_law 643 = .ok (.aload_n 1, 1) := by decide +kernel
theorem dL_law_644 : decode cL_law 644 = .ok (.aload_n 0, 1) := by decide +kernel
theorem dL_law_645 : decode cL_law 645 = .ok (.iload_n 3, 1) := by decide +kernel
theorem dL_law_646 : decode cL_law 646 = .ok (.iconst 1, 1) := by decide +kernel
theorem dL_law_647 : decode cL_law 647 = .ok (.iadd, 1) := by decide +kernel
theorem dL_law_648 : decode cL_law 648 = .ok (.iaload, 1) := by decide +kernel
theorem dL_law_649 : decode cL_law 649 = .ok (.aload_n 0, 1) := by decide +kernel
theorem dL_law_650 : decode cL_law 650 = .ok (.iload_n 3, 1) := by decide +kernel
theorem dL_law_651 : decode cL_law 651 = .ok (.iconst 2, 1) := by decide +kernel
theorem dL_law_652 : decode cL_law 652 = .ok (.iadd, 1) := by decide +kernel
theorem dL_law_653 : decode cL_law 653 = .ok (.iaload, 1) := by decide +kernel
theorem dL_law_654 : decode cL_law 654 = .ok (.invokevirtual 88, 3) := by decide +kernel
theorem dL_law_657 : decode cL_law 657 = .ok (.aload_n 2, 1) := by decide +kernel
theorem dL_law_658 : decode cL_law 658 = .ok (.aload_n 0, 1) := by decide +kernel
theorem dL_law_659 : decode cL_law 659 = .ok (.iload_n 3, 1) := by decide +kernel
theorem dL_law_660 : decode cL_law 660 = .ok (.iconst 1, 1) := by decide +kernel
theorem dL_law_661 : decode cL_law 661 = .ok (.iadd, 1) := by decide +kernel
theorem dL_law_662 : decode cL_law 662 = .ok (.iaload, 1) := by decide +kernel
theorem dL_law_663 : decode cL_law 663 = .ok (.aload_n 0, 1) := by decide +kernel
theorem dL_law_664 : decode cL_law 664 = .ok (.iload_n 3, 1) := by decide +kernel
theorem dL_law_665 : decode cL_law 665 = .ok (.iconst 2, 1) := by decide +kernel
theorem dL_law_666 : decode cL_law 666 = .ok (.iadd, 1) := by decide +kernel
theorem dL_law_667 : decode cL_law 667 = .ok (.iaload, 1) := by decide +kernel
theorem dL_law_668 : decode cL_law 668 = .ok (.invokevirtual 91, 3) := by decide +kernel
theorem dL_law_671 : decode cL_law 671 = .ok (.if_icmp .eq 374, 3) := by decide +kernel
theorem dL_law_674 : decode cL_law 674 = .ok (.iconst 0, 1) := by decide +kernel
theorem dL_law_675 : decode cL_law 675 = .ok (.ireturn, 1) := by decide +kernel
theorem dL_law_676 : decode cL_law 676 = .ok (.aload_n 1, 1) := by decide +kernel
theorem dL_law_677 : decode cL_law 677 = .ok (.aload_n 0, 1) := by decide +kernel
theorem dL_law_678 : decode cL_law 678 = .ok (.iload_n 3, 1) := by decide +kernel
theorem dL_law_679 : decode cL_law 679 = .ok (.iconst 1, 1) := by decide +kernel
theorem dL_law_680 : decode cL_law 680 = .ok (.iadd, 1) := by decide +kernel
theorem dL_law_681 : decode cL_law 681 = .ok (.iaload, 1) := by decide +kernel
theorem dL_law_682 : decode cL_law 682 = .ok (.invokevirtual 92, 3) := by decide +kernel
theorem dL_law_685 : decode cL_law 685 = .ok (.aload_n 2, 1) := by decide +kernel
theorem dL_law_686 : decode cL_law 686 = .ok (.aload_n 0, 1) := by decide +kernel
theorem dL_law_687 : decode cL_law 687 = .ok (.iload_n 3, 1) := by decide +kernel
theorem dL_law_688 : decode cL_law 688 = .ok (.iconst 1, 1) := by decide +kernel
theorem dL_law_689 : decode cL_law 689 = .ok (.iadd, 1) := by decide +kernel
theorem dL_law_690 : decode cL_law 690 = .ok (.iaload, 1) := by decide +kernel
theorem dL_law_691 : decode cL_law 691 = .ok (.invokevirtual 95, 3) := by decide +kernel
theorem dL_law_694 : decode cL_law 694 = .ok (.if_icmp .eq 351, 3) := by decide +kernel
theorem dL_law_697 : decode cL_law 697 = .ok (.iconst 0, 1) := by decide +kernel
theorem dL_law_698 : decode cL_law 698 = .ok (.ireturn, 1) := by decide +kernel
theorem dL_law_699 : decode cL_law 699 = .ok (.aload_n 1, 1) := by decide +kernel
theorem dL_law_700 : decode cL_law 700 = .ok (.aload_n 0, 1) := by decide +kernel
theorem dL_law_701 : decode cL_law 701 = .ok (.iload_n 3, 1) := by decide +kernel
theorem dL_law_702 : decode cL_law 702 = .ok (.iconst 1, 1) := by decide +kernel
theorem dL_law_703 : decode cL_law 703 = .ok (.iadd, 1) := by decide +kernel
theorem dL_law_704 : decode cL_law 704 = .ok (.iaload, 1) := by decide +kernel
theorem dL_law_705 : decode cL_law 705 = .ok (.invokevirtual 96, 3) := by decide +kernel
theorem dL_law_708 : decode cL_law 708 = .ok (.aload_n 2, 1) := by decide +kernel
theorem dL_law_709 : decode cL_law 709 = .ok (.aload_n 0, 1) := by decide +kernel
theorem dL_law_710 : decode cL_law 710 = .ok (.iload_n 3, 1) := by decide +kernel
theorem dL_law_711 : decode cL_law 711 = .ok (.iconst 1, 1) := by decide +kernel
theorem dL_law_712 : decode cL_law 712 = .ok (.iadd, 1) := by decide +kernel
theorem dL_law_713 : decode cL_law 713 = .ok (.iaload, 1) := by decide +kernel
theorem dL_law_714 : decode cL_law 714 = .ok (.invokevirtual 99, 3) := by decide +kernel
theorem dL_law_717 : decode cL_law 717 = .ok (.if_icmp .eq 328, 3) := by decide +kernel
theorem dL_law_720 : decode cL_law 720 = .ok (.iconst 0, 1) := by decide +kernel
theorem dL_law_721 : decode cL_law 721 = .ok (.ireturn, 1) := by decide +kernel
theorem dL_law_722 : decode cL_law 722 = .ok (.aload_n 1, 1) := by decide +kernel
theorem dL_law_723 : decode cL_law 723 = .ok (.aload_n 0, 1) := by decide +kernel
theorem dL_law_724 : decode cL_law 724 = .ok (.iload_n 3, 1) := by decide +kernel
theorem dL_law_725 : decode cL_law 725 = .ok (.iconst 1, 1) := by decide +kernel
theorem dL_law_726 : decode cL_law 726 = .ok (.iadd, 1) := by decide +kernel
theorem dL_law_727 : decode cL_law 727 = .ok (.iaload, 1) := by decide +kernel
theorem dL_law_728 : decode cL_law 728 = .ok (.invokevirtual 100, 3) := by decide +kernel
theorem dL_law_731 : decode cL_law 731 = .ok (.aload_n 2, 1) := by decide +kernel
theorem dL_law_732 : decode cL_law 732 = .ok (.aload_n 0, 1) := by decide +kernel
theorem dL_law_733 : decode cL_law 733 = .ok (.iload_n 3, 1) := by decide +kernel
theorem dL_law_734 : decode cL_law 734 = .ok (.iconst 1, 1) := by decide +kernel
theorem dL_law_735 : decode cL_law 735 = .ok (.iadd, 1) := by decide +kernel
theorem dL_law_736 : decode cL_law 736 = .ok (.iaload, 1) := by decide +kernel
theorem dL_law_737 : decode cL_law 737 = .ok (.invokevirtual 103, 3) := by decide +kernel
theorem dL_law_740 : decode cL_law 740 = .ok (.if_icmp .eq 305, 3) := by decide +kernel
theorem dL_law_743 : decode cL_law 743 = .ok (.iconst 0, 1) := by decide +kernel
theorem dL_law_744 : decode cL_law 744 = .ok (.ireturn, 1) := by decide +kernel
theorem dL_law_745 : decode cL_law 745 = .ok (.aload_n 1, 1) := by decide +kernel
theorem dL_law_746 : decode cL_law 746 = .ok (.aload_n 0, 1) := by decide +kernel
theorem dL_law_747 : decode cL_law 747 = .ok (.iload_n 3, 1) := by decide +kernel
theorem dL_law_748 : decode cL_law 748 = .ok (.iconst 1, 1) := by decide +kernel
theorem dL_law_749 : decode cL_law 749 = .ok (.iadd, 1) := by decide +kernel
theorem dL_law_750 : decode cL_law 750 = .ok (.iaload, 1) := by decide +kernel
theorem dL_law_751 : decode cL_law 751 = .ok (.invokevirtual 104, 3) := by decide +kernel
theorem dL_law_754 : decode cL_law 754 = .ok (.aload_n 2, 1) := by decide +kernel
theorem dL_law_755 : decode cL_law 755 = .ok (.aload_n 0, 1) := by decide +kernel
theorem dL_law_756 : decode cL_law 756 = .ok (.iload_n 3, 1) := by decide +kernel
theorem dL_law_757 : decode cL_law 757 = .ok (.iconst 1, 1) := by decide +kernel
theorem dL_law_758 : decode cL_law 758 = .ok (.iadd, 1) := by decide +kernel
theorem dL_law_759 : decode cL_law 759 = .ok (.iaload, 1) := by decide +kernel
theorem dL_law_760 : decode cL_law 760 = .ok (.invokevirtual 107, 3) := by decide +kernel
theorem dL_law_763 : decode cL_law 763 = .ok (.if_icmp .eq 282, 3) := by decide +kernel
theorem dL_law_766 : decode cL_law 766 = .ok (.iconst 0, 1) := by decide +kernel
theorem dL_law_767 : decode cL_law 767 = .ok (.ireturn, 1) := by decide +kernel
theorem dL_law_768 : decode cL_law 768 = .ok (.aload_n 1, 1) := by decide +kernel
theorem dL_law_769 : decode cL_law 769 = .ok (.aload_n 0, 1) := by decide +kernel
theorem dL_law_770 : decode cL_law 770 = .ok (.iload_n 3, 1) := by decide +kernel
theorem dL_law_771 : decode cL_law 771 = .ok (.iconst 1, 1) := by decide +kernel
theorem dL_law_772 : decode cL_law 772 = .ok (.iadd, 1) := by decide +kernel
theorem dL_law_773 : decode cL_law 773 = .ok (.iaload, 1) := by decide +kernel
theorem dL_law_774 : decode cL_law 774 = .ok (.aload_n 0, 1) := by decide +kernel
theorem dL_law_775 : decode cL_law 775 = .ok (.iload_n 3, 1) := by decide +kernel
theorem dL_law_776 : decode cL_law 776 = .ok (.iconst 2, 1) := by decide +kernel
theorem dL_law_777 : decode cL_law 777 = .ok (.iadd, 1) := by decide +kernel
theorem dL_law_778 : decode cL_law 778 = .ok (.iaload, 1) := by decide +kernel
theorem dL_law_779 : decode cL_law 779 = .ok (.aload_n 0, 1) := by decide +kernel
theorem dL_law_780 : decode cL_law 780 = .ok (.iload_n 3, 1) := by decide +kernel
theorem dL_law_781 : decode cL_law 781 = .ok (.iconst 3, 1) := by decide +kernel
theorem dL_law_782 : decode cL_law 782 = .ok (.iadd, 1) := by decide +kernel
theorem dL_law_783 : decode cL_law 783 = .ok (.iaload, 1) := by decide +kernel
theorem dL_law_784 : decode cL_law 784 = .ok (.invokevirtual 108, 3) := by decide +kernel
theorem dL_law_787 : decode cL_law 787 = .ok (.aload_n 2, 1) := by decide +kernel
theorem dL_law_788 : decode cL_law 788 = .ok (.aload_n 0, 1) := by decide +kernel
theorem dL_law_789 : decode cL_law 789 = .ok (.iload_n 3, 1) := by decide +kernel
theorem dL_law_790 : decode cL_law 790 = .ok (.iconst 1, 1) := by decide +kernel
theorem dL_law_791 : decode cL_law 791 = .ok (.iadd, 1) := by decide +kernel
theorem dL_law_792 : decode cL_law 792 = .ok (.iaload, 1) := by decide +kernel
theorem dL_law_793 : decode cL_law 793 = .ok (.aload_n 0, 1) := by decide +kernel
theorem dL_law_794 : decode cL_law 794 = .ok (.iload_n 3, 1) := by decide +kernel
theorem dL_law_795 : decode cL_law 795 = .ok (.iconst 2, 1) := by decide +kernel
theorem dL_law_796 : decode cL_law 796 = .ok (.iadd, 1) := by decide +kernel
theorem dL_law_797 : decode cL_law 797 = .ok (.iaload, 1) := by decide +kernel
theorem dL_law_798 : decode cL_law 798 = .ok (.aload_n 0, 1) := by decide +kernel
theorem dL_law_799 : decode cL_law 799 = .ok (.iload_n 3, 1) := by decide +kernel
theorem dL_law_800 : decode cL_law 800 = .ok (.iconst 3, 1) := by decide +kernel
theorem dL_law_801 : decode cL_law 801 = .ok (.iadd, 1) := by decide +kernel
theorem dL_law_802 : decode cL_law 802 = .ok (.iaload, 1) := by decide +kernel
theorem dL_law_803 : decode cL_law 803 = .ok (.invokevirtual 111, 3) := by decide +kernel
theorem dL_law_806 : decode cL_law 806 = .ok (.if_icmp .eq 239, 3) := by decide +kernel
theorem dL_law_809 : decode cL_law 809 = .ok (.iconst 0, 1) := by decide +kernel
theorem dL_law_810 : decode cL_law 810 = .ok (.ireturn, 1) := by decide +kernel
theorem dL_law_811 : decode cL_law 811 = .ok (.aload_n 1, 1) := by decide +kernel
theorem dL_law_812 : decode cL_law 812 = .ok (.invokevirtual 112, 3) := by decide +kernel
theorem dL_law_815 : decode cL_law 815 = .ok (.aload_n 2, 1) := by decide +kernel
theorem dL_law_816 : decode cL_law 816 = .ok (.invokevirtual 115, 3) := by decide +kernel
theorem dL_law_819 : decode cL_law 819 = .ok (.if_icmp .eq 226, 3) := by decide +kernel
theorem dL_law_822 : decode cL_law 822 = .ok (.iconst 0, 1) := by decide +kernel
theorem dL_law_823 : decode cL_law 823 = .ok (.ireturn, 1) := by decide +kernel
theorem dL_law_824 : decode cL_law 824 = .ok (.aload_n 1, 1) := by decide +kernel
theorem dL_law_825 : decode cL_law 825 = .ok (.aload_n 0, 1) := by decide +kernel
theorem dL_law_826 : decode cL_law 826 = .ok (.iload_n 3, 1) := by decide +kernel
theorem dL_law_827 : decode cL_law 827 = .ok (.iconst 1, 1) := by decide +kernel
theorem dL_law_828 : decode cL_law 828 = .ok (.iadd, 1) := by decide +kernel
theorem dL_law_829 : decode cL_law 829 = .ok (.iaload, 1) := by decide +kernel
theorem dL_law_830 : decode cL_law 830 = .ok (.invokevirtual 116, 3) := by decide +kernel
theorem dL_law_833 : decode cL_law 833 = .ok (.aload_n 2, 1) := by decide +kernel
theorem dL_law_834 : decode cL_law 834 = .ok (.aload_n 0, 1) := by decide +kernel
theorem dL_law_835 : decode cL_law 835 = .ok (.iload_n 3, 1) := by decide +kernel
theorem dL_law_836 : decode cL_law 836 = .ok (.iconst 1, 1) := by decide +kernel
theorem dL_law_837 : decode cL_law 837 = .ok (.iadd, 1) := by decide +kernel
theorem dL_law_838 : decode cL_law 838 = .ok (.iaload, 1) := by decide +kernel
theorem dL_law_839 : decode cL_law 839 = .ok (.invokevirtual 119, 3) := by decide +kernel
theorem dL_law_842 : decode cL_law 842 = .ok (.if_icmp .eq 203, 3) := by decide +kernel
theorem dL_law_845 : decode cL_law 845 = .ok (.iconst 0, 1) := by decide +kernel
theorem dL_law_846 : decode cL_law 846 = .ok (.ireturn, 1) := by decide +kernel
theorem dL_law_847 : decode cL_law 847 = .ok (.aload_n 1, 1) := by decide +kernel
theorem dL_law_848 : decode cL_law 848 = .ok (.aload_n 0, 1) := by decide +kernel
theorem dL_law_849 : decode cL_law 849 = .ok (.iload_n 3, 1) := by decide +kernel
theorem dL_law_850 : decode cL_law 850 = .ok (.iconst 1, 1) := by decide +kernel
theorem dL_law_851 : decode cL_law 851 = .ok (.iadd, 1) := by decide +kernel
theorem dL_law_852 : decode cL_law 852 = .ok (.iaload, 1) := by decide +kernel
theorem dL_law_853 : decode cL_law 853 = .ok (.invokevirtual 120, 3) := by decide +kernel
theorem dL_law_856 : decode cL_law 856 = .ok (.aload_n 2, 1) := by decide +kernel
theorem dL_law_857 : decode cL_law 857 = .ok (.aload_n 0, 1) := by decide +kernel
theorem dL_law_858 : decode cL_law 858 = .ok (.iload_n 3, 1) := by decide +kernel
theorem dL_law_859 : decode cL_law 859 = .ok (.iconst 1, 1) := by decide +kernel
theorem dL_law_860 : decode cL_law 860 = .ok (.iadd, 1) := by decide +kernel
theorem dL_law_861 : decode cL_law 861 = .ok (.iaload, 1) := by decide +kernel
theorem dL_law_862 : decode cL_law 862 = .ok (.invokevirtual 123, 3) := by decide +kernel
theorem dL_law_865 : decode cL_law 865 = .ok (.if_icmp .eq 180, 3) := by decide +kernel
theorem dL_law_868 : decode cL_law 868 = .ok (.iconst 0, 1) := by decide +kernel
theorem dL_law_869 : decode cL_law 869 = .ok (.ireturn, 1) := by decide +kernel
theorem dL_law_870 : decode cL_law 870 = .ok (.aload_n 1, 1) := by decide +kernel
theorem dL_law_871 : decode cL_law 871 = .ok (.aload_n 0, 1) := by decide +kernel
theorem dL_law_872 : decode cL_law 872 = .ok (.iload_n 3, 1) := by decide +kernel
theorem dL_law_873 : decode cL_law 873 = .ok (.iconst 1, 1) := by decide +kernel
theorem dL_law_874 : decode cL_law 874 = .ok (.iadd, 1) := by decide +kernel
theorem dL_law_875 : decode cL_law 875 = .ok (.iaload, 1) := by decide +kernel
theorem dL_law_876 : decode cL_law 876 = .ok (.invokevirtual 124, 3) := by decide +kernel
theorem dL_law_879 : decode cL_law 879 = .ok (.aload_n 2, 1) := by decide +kernel
theorem dL_law_880 : decode cL_law 880 = .ok (.aload_n 0, 1) := by decide +kernel
theorem dL_law_881 : decode cL_law 881 = .ok (.iload_n 3, 1) := by decide +kernel
theorem dL_law_882 : decode cL_law 882 = .ok (.iconst 1, 1) := by decide +kernel
theorem dL_law_883 : decode cL_law 883 = .ok (.iadd, 1) := by decide +kernel
theorem dL_law_884 : decode cL_law 884 = .ok (.iaload, 1) := by decide +kernel
theorem dL_law_885 : decode cL_law 885 = .ok (.invokevirtual 127, 3) := by decide +kernel
theorem dL_law_888 : decode cL_law 888 = .ok (.if_icmp .eq 157, 3) := by decide +kernel
theorem dL_law_891 : decode cL_law 891 = .ok (.iconst 0, 1) := by decide +kernel
theorem dL_law_892 : decode cL_law 892 = .ok (.ireturn, 1) := by decide +kernel
theorem dL_law_893 : decode cL_law 893 = .ok (.aload_n 1, 1) := by decide +kernel
theorem dL_law_894 : decode cL_law 894 = .ok (.aload_n 0, 1) := by decide +kernel
theorem dL_law_895 : decode cL_law 895 = .ok (.iload_n 3, 1) := by decide +kernel
theorem dL_law_896 : decode cL_law 896 = .ok (.iconst 1, 1) := by decide +kernel
theorem dL_law_897 : decode cL_law 897 = .ok (.iadd, 1) := by decide +kernel
theorem dL_law_898 : decode cL_law 898 = .ok (.iaload, 1) := by decide +kernel
theorem dL_law_899 : decode cL_law 899 = .ok (.aload_n 0, 1) := by decide +kernel
theorem dL_law_900 : decode cL_law 900 = .ok (.iload_n 3, 1) := by decide +kernel
theorem dL_law_901 : decode cL_law 901 = .ok (.iconst 2, 1) := by decide +kernel
theorem dL_law_902 : decode cL_law 902 = .ok (.iadd, 1) := by decide +kernel
theorem dL_law_903 : decode cL_law 903 = .ok (.iaload, 1) := by decide +kernel
theorem dL_law_904 : decode cL_law 904 = .ok (.aload_n 0, 1) := by decide +kernel
theorem dL_law_905 : decode cL_law 905 = .ok (.iload_n 3, 1) := by decide +kernel
theorem dL_law_906 : decode cL_law 906 = .ok (.iconst 3, 1) := by decide +kernel
theorem dL_law_907 : decode cL_law 907 = .ok (.iadd, 1) := by decide +kernel
theorem dL_law_908 : decode cL_law 908 = .ok (.iaload, 1) := by decide +kernel
theorem dL_law_909 : decode cL_law 909 = .ok (.invokevirtual 128, 3) := by decide +kernel
theorem dL_law_912 : decode cL_law 912 = .ok (.aload_n 2, 1) := by decide +kernel
theorem dL_law_913 : decode cL_law 913 = .ok (.aload_n 0, 1) := by decide +kernel
theorem dL_law_914 : decode cL_law 914 = .ok (.iload_n 3, 1) := by decide +kernel
theorem dL_law_915 : decode cL_law 915 = .ok (.iconst 1, 1) := by decide +kernel
theorem dL_law_916 : decode cL_law 916 = .ok (.iadd, 1) := by decide +kernel
theorem dL_law_917 : decode cL_law 917 = .ok (.iaload, 1) := by decide +kernel
theorem dL_law_918 : decode cL_law 918 = .ok (.aload_n 0, 1) := by decide +kernel
theorem dL_law_919 : decode cL_law 919 = .ok (.iload_n 3, 1) := by decide +kernel
theorem dL_law_920 : decode cL_law 920 = .ok (.iconst 2, 1) := by decide +kernel
theorem dL_law_921 : decode cL_law 921 = .ok (.iadd, 1) := by decide +kernel
theorem dL_law_922 : decode cL_law 922 = .ok (.iaload, 1) := by decide +kernel
theorem dL_law_923 : decode cL_law 923 = .ok (.aload_n 0, 1) := by decide +kernel
theorem dL_law_924 : decode cL_law 924 = .ok (.iload_n 3, 1) := by decide +kernel
theorem dL_law_925 : decode cL_law 925 = .ok (.iconst 3, 1) := by decide +kernel
theorem dL_law_926 : decode cL_law 926 = .ok (.iadd, 1) := by decide +kernel
theorem dL_law_927 : decode cL_law 927 = .ok (.iaload, 1) := by decide +kernel
theorem dL_law_928 : decode cL_law 928 = .ok (.invokevirtual 131, 3) := by decide +kernel
theorem dL_law_931 : decode cL_law 931 = .ok (.if_icmp .eq 114, 3) := by decide +kernel
theorem dL_law_934 : decode cL_law 934 = .ok (.iconst 0, 1) := by decide +kernel
theorem dL_law_935 : decode cL_law 935 = .ok (.ireturn, 1) := by decide +kernel
theorem dL_law_936 : decode cL_law 936 = .ok (.aload_n 1, 1) := by decide +kernel
theorem dL_law_937 : decode cL_law 937 = .ok (.aload_n 0, 1) := by decide +kernel
theorem dL_law_938 : decode cL_law 938 = .ok (.iload_n 3, 1) := by decide +kernel
theorem dL_law_939 : decode cL_law 939 = .ok (.iconst 1, 1) := by decide +kernel
theorem dL_law_940 : decode cL_law 940 = .ok (.iadd, 1) := by decide +kernel
theorem dL_law_941 : decode cL_law 941 = .ok (.iaload, 1) := by decide +kernel
theorem dL_law_942 : decode cL_law 942 = .ok (.aload_n 0, 1) := by decide +kernel
theorem dL_law_943 : decode cL_law 943 = .ok (.iload_n 3, 1) := by decide +kernel
theorem dL_law_944 : decode cL_law 944 = .ok (.iconst 2, 1) := by decide +kernel
theorem dL_law_945 : decode cL_law 945 = .ok (.iadd, 1) := by decide +kernel
theorem dL_law_946 : decode cL_law 946 = .ok (.iaload, 1) := by decide +kernel
theorem dL_law_947 : decode cL_law 947 = .ok (.aload_n 0, 1) := by decide +kernel
theorem dL_law_948 : decode cL_law 948 = .ok (.iload_n 3, 1) := by decide +kernel
theorem dL_law_949 : decode cL_law 949 = .ok (.iconst 3, 1) := by decide +kernel
theorem dL_law_950 : decode cL_law 950 = .ok (.iadd, 1) := by decide +kernel
theorem dL_law_951 : decode cL_law 951 = .ok (.iaload, 1) := by decide +kernel
theorem dL_law_952 : decode cL_law 952 = .ok (.invokevirtual 132, 3) := by decide +kernel
theorem dL_law_955 : decode cL_law 955 = .ok (.aload_n 2, 1) := by decide +kernel
theorem dL_law_956 : decode cL_law 956 = .ok (.aload_n 0, 1) := by decide +kernel
theorem dL_law_957 : decode cL_law 957 = .ok (.iload_n 3, 1) := by decide +kernel
theorem dL_law_958 : decode cL_law 958 = .ok (.iconst 1, 1) := by decide +kernel
theorem dL_law_959 : decode cL_law 959 = .ok (.iadd, 1) := by decide +kernel
theorem dL_law_960 : decode cL_law 960 = .ok (.iaload, 1) := by decide +kernel
theorem dL_law_961 : decode cL_law 961 = .ok (.aload_n 0, 1) := by decide +kernel
theorem dL_law_962 : decode cL_law 962 = .ok (.iload_n 3, 1) := by decide +kernel
theorem dL_law_963 : decode cL_law 963 = .ok (.iconst 2, 1) := by decide +kernel
theorem dL_law_964 : decode cL_law 964 = .ok (.iadd, 1) := by decide +kernel
theorem dL_law_965 : decode cL_law 965 = .ok (.iaload, 1) := by decide +kernel
theorem dL_law_966 : decode cL_law 966 = .ok (.aload_n 0, 1) := by decide +kernel
theorem dL_law_967 : decode cL_law 967 = .ok (.iload_n 3, 1) := by decide +kernel
theorem dL_law_968 : decode cL_law 968 = .ok (.iconst 3, 1) := by decide +kernel
theorem dL_law_969 : decode cL_law 969 = .ok (.iadd, 1) := by decide +kernel
theorem dL_law_970 : decode cL_law 970 = .ok (.iaload, 1) := by decide +kernel
theorem dL_law_971 : decode cL_law 971 = .ok (.invokevirtual 135, 3) := by decide +kernel
theorem dL_law_974 : decode cL_law 974 = .ok (.if_icmp .eq 71, 3) := by decide +kernel
theorem dL_law_977 : decode cL_law 977 = .ok (.iconst 0, 1) := by decide +kernel
theorem dL_law_978 : decode cL_law 978 = .ok (.ireturn, 1) := by decide +kernel
theorem dL_law_979 : decode cL_law 979 = .ok (.aload_n 1, 1) := by decide +kernel
theorem dL_law_980 : decode cL_law 980 = .ok (.aload_n 0, 1) := by decide +kernel
theorem dL_law_981 : decode cL_law 981 = .ok (.iload_n 3, 1) := by decide +kernel
theorem dL_law_982 : decode cL_law 982 = .ok (.iconst 1, 1) := by decide +kernel
theorem dL_law_983 : decode cL_law 983 = .ok (.iadd, 1) := by decide +kernel
theorem dL_law_984 : decode cL_law 984 = .ok (.iaload, 1) := by decide +kernel
theorem dL_law_985 : decode cL_law 985 = .ok (.aload_n 0, 1) := by decide +kernel
theorem dL_law_986 : decode cL_law 986 = .ok (.iload_n 3, 1) := by decide +kernel
theorem dL_law_987 : decode cL_law 987 = .ok (.iconst 2, 1) := by decide +kernel
theorem dL_law_988 : decode cL_law 988 = .ok (.iadd, 1) := by decide +kernel
theorem dL_law_989 : decode cL_law 989 = .ok (.iaload, 1) := by decide +kernel
theorem dL_law_990 : decode cL_law 990 = .ok (.aload_n 0, 1) := by decide +kernel
theorem dL_law_991 : decode cL_law 991 = .ok (.iload_n 3, 1) := by decide +kernel
theorem dL_law_992 : decode cL_law 992 = .ok (.iconst 3, 1) := by decide +kernel
theorem dL_law_993 : decode cL_law 993 = .ok (.iadd, 1) := by decide +kernel
theorem dL_law_994 : decode cL_law 994 = .ok (.iaload, 1) := by decide +kernel
theorem dL_law_995 : decode cL_law 995 = .ok (.invokevirtual 136, 3) := by decide +kernel
theorem dL_law_998 : decode cL_law 998 = .ok (.aload_n 2, 1) := by decide +kernel
theorem dL_law_999 : decode cL_law 999 = .ok (.aload_n 0, 1) := by decide +kernel
theorem dL_law_1000 : decode cL_law 1000 = .ok (.iload_n 3, 1) := by decide +kernel
theorem dL_law_1001 : decode cL_law 1001 = .ok (.iconst 1, 1) := by decide +kernel
theorem dL_law_1002 : decode cL_law 1002 = .ok (.iadd, 1) := by decide +kernel
theorem dL_law_1003 : decode cL_law 1003 = .ok (.iaload, 1) := by decide +kernel
theorem dL_law_1004 : decode cL_law 1004 = .ok (.aload_n 0, 1) := by decide +kernel
theorem dL_law_1005 : decode cL_law 1005 = .ok (.iload_n 3, 1) := by decide +kernel
theorem dL_law_1006 : decode cL_law 1006 = .ok (.iconst 2, 1) := by decide +kernel
theorem dL_law_1007 : decode cL_law 1007 = .ok (.iadd, 1) := by decide +kernel
theorem dL_law_1008 : decode cL_law 1008 = .ok (.iaload, 1) := by decide +kernel
theorem dL_law_1009 : decode cL_law 1009 = .ok (.aload_n 0, 1) := by decide +kernel
theorem dL_law_1010 : decode cL_law 1010 = .ok (.iload_n 3, 1) := by decide +kernel
theorem dL_law_1011 : decode cL_law 1011 = .ok (.iconst 3, 1) := by decide +kernel
theorem dL_law_1012 : decode cL_law 1012 = .ok (.iadd, 1) := by decide +kernel
theorem dL_law_1013 : decode cL_law 1013 = .ok (.iaload, 1) := by decide +kernel
theorem dL_law_1014 : decode cL_law 1014 = .ok (.invokevirtual 139, 3) := by decide +kernel
theorem dL_law_1017 : decode cL_law 1017 = .ok (.if_icmp .eq 28, 3) := by decide +kernel
theorem dL_law_1020 : decode cL_law 1020 = .ok (.iconst 0, 1) := by decide +kernel
theorem dL_law_1021 : decode cL_law 1021 = .ok (.ireturn, 1) := by decide +kernel
theorem dL_law_1022 : decode cL_law 1022 = .ok (.aload_n 1, 1) := by decide +kernel
theorem dL_law_1023 : decode cL_law 1023 = .ok (.aload_n 0, 1) := by decide +kernel
theorem dL_law_1024 : decode cL_law 1024 = .ok (.iload_n 3, 1) := by decide +kernel
theorem dL_law_1025 : decode cL_law 1025 = .ok (.iconst 1, 1) := by decide +kernel
theorem dL_law_1026 : decode cL_law 1026 = .ok (.iadd, 1) := by decide +kernel
theorem dL_law_1027 : decode cL_law 1027 = .ok (.iaload, 1) := by decide +kernel
theorem dL_law_1028 : decode cL_law 1028 = .ok (.invokevirtual 140, 3) := by decide +kernel
theorem dL_law_1031 : decode cL_law 1031 = .ok (.aload_n 2, 1) := by decide +kernel
theorem dL_law_1032 : decode cL_law 1032 = .ok (.aload_n 0, 1) := by decide +kernel
theorem dL_law_1033 : decode cL_law 1033 = .ok (.iload_n 3, 1) := by decide +kernel
theorem dL_law_1034 : decode cL_law 1034 = .ok (.iconst 1, 1) := by decide +kernel
theorem dL_law_1035 : decode cL_law 1035 = .ok (.iadd, 1) := by decide +kernel
theorem dL_law_1036 : decode cL_law 1036 = .ok (.iaload, 1) := by decide +kernel
theorem dL_law_1037 : decode cL_law 1037 = .ok (.invokevirtual 143, 3) := by decide +kernel
theorem dL_law_1040 : decode cL_law 1040 = .ok (.if_icmp .eq 5, 3) := by decide +kernel
theorem dL_law_1043 : decode cL_law 1043 = .ok (.iconst 0, 1) := by decide +kernel
theorem dL_law_1044 : decode cL_law 1044 = .ok (.ireturn, 1) := by decide +kernel
theorem dL_law_1045 : decode cL_law 1045 = .ok (.iinc 3 4, 3) := by decide +kernel
theorem dL_law_1048 : decode cL_law 1048 = .ok (.goto (-1030), 3) := by decide +kernel
theorem dL_law_1051 : decode cL_law 1051 = .ok (.iconst 1, 1) := by decide +kernel
theorem dL_law_1052 : decode cL_law 1052 = .ok (.ireturn, 1) := by decide +kernel
def zno : zT := fun _ => none
def t_law (sz : Nat) : zT := t_X10_init (zts (t_X9_init (zts zno sz (.inr 20)) (sz + 1) sz) (sz + 53) (.inr 21)) (sz + 54) (sz + 53)
abbrev zkl (sz : Nat) : zC := (sz + 89, t_law sz, 89, 13468)
abbrev zlR : Type := (Int32 × zG) ⊕ (Int32 × zG)
def zcont (l3 v w : Int32) (g : zG) : Option zlR := if v = w then some (.inl (l3 + 4, g)) else some (.inr (0, g))
theorem t_law_X (sz : Nat) : t_law sz sz = some (.inr 9) := t_X10_init_old (zts_ne (t_X9_init_new _ _ _ (by omega)) (by omega)) (by omega) (by omega)
theorem t_law_M (sz : Nat) : t_law sz (sz + 53) = some (.inr 10) := t_X10_init_new _ _ _ (by omega)
section ZLAW
variable {ρ : Type} {K : ρ → Prop} {f f1 f2 : Option ρ} {E : zE} {D : zD} {A : Nat → Prop} {Q : State → Prop} {nL : Nat} {κ : zC} {g : zG} {pc : Nat} {lv lv' : List (Nat × Value)} {st : List Value} {cc : ByteArray} {own : String} {ret : Option FieldType} {b L : Nat} {xs : Nat → Int32}
theorem z_sld (F : zF E D A cc own nL ret) (hX : va_X b L xs E.2.2.2.2.1 E.2.2.2.2.1.heap) (hbl : b < E.2.2.2.2.1.heap.size) (hbA : ¬ A b) {i : Int32} [dz : Decidable (zin i L)] (hd : decode cc pc = .ok (.iaload, 1)) (kk : zSim K f (zAt E D A Q nL κ g (pc + 1) lv (.int (xs i.toNatClampNeg) :: st))) : zSim K (zc (zin i L) f) (zAt E D A Q nL κ g pc lv (.int i :: .ref b :: st)) :=
  z_zc (fun hin x hx hK H locs ls h1 h2 h3 h4 h5 h6 => va_sld F.ex F.cd hX hbl hbA h5 hin hd (kk x hx hK H locs ls h1 h2 h3 h4 h5 h6))
theorem z_slen (F : zF E D A cc own nL ret) (hX : va_X b L xs E.2.2.2.2.1 E.2.2.2.2.1.heap) (hbl : b < E.2.2.2.2.1.heap.size) (hbA : ¬ A b) (hd : decode cc pc = .ok (.arraylength, 1)) (kk : zSim K f (zAt E D A Q nL κ g (pc + 1) lv (.int (Int32.ofNat L) :: st))) : zSim K f (zAt E D A Q nL κ g pc lv (.ref b :: st)) :=
  fun x hx hK H locs ls h1 h2 h3 h4 h5 h6 => va_slen F.ex F.cd hX hbl hbA h5 hd (kk x hx hK H locs ls h1 h2 h3 h4 h5 h6)
theorem z_no {v : ρ} {X : Prop} (h : K v → False) : zSim K (some v) X := fun r hr hk => by cases hr; exact (h hk).elim
end ZLAW
def lc_0 (L : Nat) (xs : Nat → Int32) (sz : Nat) (l3 : Int32) (g : zG) : Option zlR :=
  zc (zin (l3 + 1) L) (zc (zin (l3 + 2) L) (zb (f_X9_feed sz ((zlshl ((xs (l3 + 1).toNatClampNeg).toInt64) 32) ||| (((xs (l3 + 2).toNatClampNeg).toInt64) &&& 4294967295)) g) (fun v1 g1 => zc (zin (l3 + 1) L) (zc (zin (l3 + 2) L) (zb (f_X10_feed (sz + 53) ((zlshl ((xs (l3 + 1).toNatClampNeg).toInt64) 32) ||| (((xs (l3 + 2).toNatClampNeg).toInt64) &&& 4294967295)) g1) (fun v2 g2 => zcont l3 v1 v2 g2))))))
set_option maxRecDepth 100000 in
set_option maxHeartbeats 4000000 in
theorem ltc_0 {E : zE} {D : zD} {A : Nat → Prop} {Q : State → Prop} {b L sz : Nat} {xs : Nat → Int32} (F : zF E D A cL_law "TypeChainLaw" 4 (some .boolean)) (hR : E.2.2.2.1 = room_1) (hX : va_X b L xs E.2.2.2.2.1 E.2.2.2.2.1.heap) (hbl : b < E.2.2.2.2.1.heap.size) (hbA : ¬ A b) (l3 : Int32) (g : zG) : zSim (zKl (fun s : Int32 × zG => zAt E D A Q 4 (zkl sz) s.2 18 [(0, .ref b), (1, .ref sz), (2, .ref (sz + 53)), (3, .int s.1)] []) (fun q : Int32 × zG => q.1 = 1)) (lc_0 L xs sz l3 g) (zAt E D A Q 4 (zkl sz) g 172 [(0, .ref b), (1, .ref sz), (2, .ref (sz + 53)), (3, .int l3)] []) := by
  unfold lc_0
  refine z_aload_n F 1 rfl rfl dL_law_172 ?_
  refine z_aload_n F 0 rfl rfl dL_law_173 ?_
  refine z_iload_n F 3 rfl rfl dL_law_174 ?_
  refine z_iconst (v := 1) F (by decide) dL_law_175 ?_
  refine z_iadd F dL_law_176 ?_
  refine z_sld F hX hbl hbA dL_law_177 ?_
  refine z_i2l F dL_law_178 ?_
  refine z_bipush (v := 32) F (by decide) dL_law_179 ?_
  refine z_lshl F dL_law_181 ?_
  refine z_aload_n F 0 rfl rfl dL_law_182 ?_
  refine z_iload_n F 3 rfl rfl dL_law_183 ?_
  refine z_iconst (v := 2) F (by decide) dL_law_184 ?_
  refine z_iadd F dL_law_185 ?_
  refine z_sld F hX hbl hbA dL_law_186 ?_
  refine z_i2l F dL_law_187 ?_
  refine z_ldc2 F q_1361 dL_law_188 ?_
  refine z_land F dL_law_191 ?_
  refine z_lor F dL_law_192 ?_
  refine k_X9_feed (κ := zkl sz) F (by rw [hR]; exact ⟨by decide, by decide⟩) q_418 (t_law_X sz) ⟨by rw [hR]; exact Nat.le_of_ble_eq_true rfl, by rw [hR]; exact Nat.le_of_ble_eq_true rfl⟩ (Nat.le_of_ble_eq_true rfl) dL_law_193 (fun v1 g1 => ?_)
  refine z_aload_n F 2 rfl rfl dL_law_196 ?_
  refine z_aload_n F 0 rfl rfl dL_law_197 ?_
  refine z_iload_n F 3 rfl rfl dL_law_198 ?_
  refine z_iconst (v := 1) F (by decide) dL_law_199 ?_
  refine z_iadd F dL_law_200 ?_
  refine z_sld F hX hbl hbA dL_law_201 ?_
  refine z_i2l F dL_law_202 ?_
  refine z_bipush (v := 32) F (by decide) dL_law_203 ?_
  refine z_lshl F dL_law_205 ?_
  refine z_aload_n F 0 rfl rfl dL_law_206 ?_
  refine z_iload_n F 3 rfl rfl dL_law_207 ?_
  refine z_iconst (v := 2) F (by decide) dL_law_208 ?_
  refine z_iadd F dL_law_209 ?_
  refine z_sld F hX hbl hbA dL_law_210 ?_
  refine z_i2l F dL_law_211 ?_
  refine z_ldc2 F q_1361 dL_law_212 ?_
  refine z_land F dL_law_215 ?_
  refine z_lor F dL_law_216 ?_
  refine k_X10_feed (κ := zkl sz) F (by rw [hR]; exact ⟨by decide, by decide⟩) q_1073 (t_law_M sz) ⟨by rw [hR]; exact Nat.le_of_ble_eq_true rfl, by rw [hR]; exact Nat.le_of_ble_eq_true rfl⟩ (Nat.le_of_ble_eq_true rfl) dL_law_217 (fun v2 g2 => ?_)
  unfold zcont
  refine z_icmp_eq (tgt := 1045) F dL_law_220 (by decide) (fun c1 => ?_) (fun c1 => ?_)
  · refine z_iinc (v := l3 + 4) (lv' := [(3, .int (l3 + 4)), (0, .ref b), (1, .ref sz), (2, .ref (sz + 53))]) F 3 rfl (congrArg (l3 + ·) (by decide)) (by decide) dL_law_1045 rfl ?_
    refine z_goto (tgt := 18) F dL_law_1048 (by decide) ?_
    refine z_sub (lv' := [(0, .ref b), (1, .ref sz), (2, .ref (sz + 53)), (3, .int (l3 + 4))]) [1, 2, 3, 0] rfl ?_
    exact z_back (fun h => h)
  · exact z_no (fun h => absurd (show (0 : Int32) = 1 from h) (by decide))
def lc_1 (L : Nat) (xs : Nat → Int32) (sz : Nat) (l3 : Int32) (g : zG) : Option zlR :=
  zc (zin (l3 + 1) L) (zb (f_X9_end sz (xs (l3 + 1).toNatClampNeg) g) (fun v1 g1 => zc (zin (l3 + 1) L) (zb (f_X10_end (sz + 53) (xs (l3 + 1).toNatClampNeg) g1) (fun v2 g2 => zcont l3 v1 v2 g2))))
set_option maxRecDepth 100000 in
set_option maxHeartbeats 4000000 in
theorem ltc_1 {E : zE} {D : zD} {A : Nat → Prop} {Q : State → Prop} {b L sz : Nat} {xs : Nat → Int32} (F : zF E D A cL_law "TypeChainLaw" 4 (some .boolean)) (hR : E.2.2.2.1 = room_1) (hX : va_X b L xs E.2.2.2.2.1 E.2.2.2.2.1.heap) (hbl : b < E.2.2.2.2.1.heap.size) (hbA : ¬ A b) (l3 : Int32) (g : zG) : zSim (zKl (fun s : Int32 × zG => zAt E D A Q 4 (zkl sz) s.2 18 [(0, .ref b), (1, .ref sz), (2, .ref (sz + 53)), (3, .int s.1)] []) (fun q : Int32 × zG => q.1 = 1)) (lc_1 L xs sz l3 g) (zAt E D A Q 4 (zkl sz) g 225 [(0, .ref b), (1, .ref sz), (2, .ref (sz + 53)), (3, .int l3)] []) := by
  unfold lc_1
  refine z_aload_n F 1 rfl rfl dL_law_225 ?_
  refine z_aload_n F 0 rfl rfl dL_law_226 ?_
  refine z_iload_n F 3 rfl rfl dL_law_227 ?_
  refine z_iconst (v := 1) F (by decide) dL_law_228 ?_
  refine z_iadd F dL_law_229 ?_
  refine z_sld F hX hbl hbA dL_law_230 ?_
  refine k_X9_end (κ := zkl sz) F (by rw [hR]; exact ⟨by decide, by decide⟩) q_426 (t_law_X sz) ⟨by rw [hR]; exact Nat.le_of_ble_eq_true rfl, by rw [hR]; exact Nat.le_of_ble_eq_true rfl⟩ (Nat.le_of_ble_eq_true rfl) dL_law_231 (fun v1 g1 => ?_)
  refine z_aload_n F 2 rfl rfl dL_law_234 ?_
  refine z_aload_n F 0 rfl rfl dL_law_235 ?_
  refine z_iload_n F 3 rfl rfl dL_law_236 ?_
  refine z_iconst (v := 1) F (by decide) dL_law_237 ?_
  refine z_iadd F dL_law_238 ?_
  refine z_sld F hX hbl hbA dL_law_239 ?_
  refine k_X10_end (κ := zkl sz) F (by rw [hR]; exact ⟨by decide, by decide⟩) q_1078 (t_law_M sz) ⟨by rw [hR]; exact Nat.le_of_ble_eq_true rfl, by rw [hR]; exact Nat.le_of_ble_eq_true rfl⟩ (Nat.le_of_ble_eq_true rfl) dL_law_240 (fun v2 g2 => ?_)
  unfold zcont
  refine z_icmp_eq (tgt := 1045) F dL_law_243 (by decide) (fun c1 => ?_) (fun c1 => ?_)
  · refine z_iinc (v := l3 + 4) (lv' := [(3, .int (l3 + 4)), (0, .ref b), (1, .ref sz), (2, .ref (sz + 53))]) F 3 rfl (congrArg (l3 + ·) (by decide)) (by decide) dL_law_1045 rfl ?_
    refine z_goto (tgt := 18) F dL_law_1048 (by decide) ?_
    refine z_sub (lv' := [(0, .ref b), (1, .ref sz), (2, .ref (sz + 53)), (3, .int (l3 + 4))]) [1, 2, 3, 0] rfl ?_
    exact z_back (fun h => h)
  · exact z_no (fun h => absurd (show (0 : Int32) = 1 from h) (by decide))
def lc_2 (L : Nat) (xs : Nat → Int32) (sz : Nat) (l3 : Int32) (g : zG) : Option zlR :=
  zb (f_X9_text sz g) (fun v1 g1 => zb (f_X10_text (sz + 53) g1) (fun v2 g2 => zcont l3 v1 v2 g2))
set_option maxRecDepth 100000 in
set_option maxHeartbeats 4000000 in
theorem ltc_2 {E : zE} {D : zD} {A : Nat → Prop} {Q : State → Prop} {b L sz : Nat} {xs : Nat → Int32} (F : zF E D A cL_law "TypeChainLaw" 4 (some .boolean)) (hR : E.2.2.2.1 = room_1) (hX : va_X b L xs E.2.2.2.2.1 E.2.2.2.2.1.heap) (hbl : b < E.2.2.2.2.1.heap.size) (hbA : ¬ A b) (l3 : Int32) (g : zG) : zSim (zKl (fun s : Int32 × zG => zAt E D A Q 4 (zkl sz) s.2 18 [(0, .ref b), (1, .ref sz), (2, .ref (sz + 53)), (3, .int s.1)] []) (fun q : Int32 × zG => q.1 = 1)) (lc_2 L xs sz l3 g) (zAt E D A Q 4 (zkl sz) g 248 [(0, .ref b), (1, .ref sz), (2, .ref (sz + 53)), (3, .int l3)] []) := by
  unfold lc_2
  refine z_aload_n F 1 rfl rfl dL_law_248 ?_
  refine k_X9_text (κ := zkl sz) F (by rw [hR]; exact ⟨by decide, by decide⟩) q_430 (t_law_X sz) ⟨by rw [hR]; exact Nat.le_of_ble_eq_true rfl, by rw [hR]; exact Nat.le_of_ble_eq_true rfl⟩ (Nat.le_of_ble_eq_true rfl) dL_law_249 (fun v1 g1 => ?_)
  refine z_aload_n F 2 rfl rfl dL_law_252 ?_
  refine k_X10_text (κ := zkl sz) F (by rw [hR]; exact ⟨by decide, by decide⟩) q_1085 (t_law_M sz) ⟨by rw [hR]; exact Nat.le_of_ble_eq_true rfl, by rw [hR]; exact Nat.le_of_ble_eq_true rfl⟩ (Nat.le_of_ble_eq_true rfl) dL_law_253 (fun v2 g2 => ?_)
  unfold zcont
  refine z_icmp_eq (tgt := 1045) F dL_law_256 (by decide) (fun c1 => ?_) (fun c1 => ?_)
  · refine z_iinc (v := l3 + 4) (lv' := [(3, .int (l3 + 4)), (0, .ref b), (1, .ref sz), (2, .ref (sz + 53))]) F 3 rfl (congrArg (l3 + ·) (by decide)) (by decide) dL_law_1045 rfl ?_
    refine z_goto (tgt := 18) F dL_law_1048 (by decide) ?_
    refine z_sub (lv' := [(0, .ref b), (1, .ref sz), (2, .ref (sz + 53)), (3, .int (l3 + 4))]) [1, 2, 3, 0] rfl ?_
    exact z_back (fun h => h)
  · exact z_no (fun h => absurd (show (0 : Int32) = 1 from h) (by decide))
def lc_3 (L : Nat) (xs : Nat → Int32) (sz : Nat) (l3 : Int32) (g : zG) : Option zlR :=
  zb (f_X9_fault sz g) (fun v1 g1 => zb (f_X10_fault (sz + 53) g1) (fun v2 g2 => zcont l3 v1 v2 g2))
set_option maxRecDepth 100000 in
set_option maxHeartbeats 4000000 in
theorem ltc_3 {E : zE} {D : zD} {A : Nat → Prop} {Q : State → Prop} {b L sz : Nat} {xs : Nat → Int32} (F : zF E D A cL_law "TypeChainLaw" 4 (some .boolean)) (hR : E.2.2.2.1 = room_1) (hX : va_X b L xs E.2.2.2.2.1 E.2.2.2.2.1.heap) (hbl : b < E.2.2.2.2.1.heap.size) (hbA : ¬ A b) (l3 : Int32) (g : zG) : zSim (zKl (fun s : Int32 × zG => zAt E D A Q 4 (zkl sz) s.2 18 [(0, .ref b), (1, .ref sz), (2, .ref (sz + 53)), (3, .int s.1)] []) (fun q : Int32 × zG => q.1 = 1)) (lc_3 L xs sz l3 g) (zAt E D A Q 4 (zkl sz) g 261 [(0, .ref b), (1, .ref sz), (2, .ref (sz + 53)), (3, .int l3)] []) := by
  unfold lc_3
  refine z_aload_n F 1 rfl rfl dL_law_261 ?_
  refine k_X9_fault (κ := zkl sz) F (by rw [hR]; exact ⟨by decide, by decide⟩) q_561 (t_law_X sz) ⟨by rw [hR]; exact Nat.le_of_ble_eq_true rfl, by rw [hR]; exact Nat.le_of_ble_eq_true rfl⟩ (Nat.le_of_ble_eq_true rfl) dL_law_262 (fun v1 g1 => ?_)
  refine z_aload_n F 2 rfl rfl dL_law_265 ?_
  refine k_X10_fault (κ := zkl sz) F (by rw [hR]; exact ⟨by decide, by decide⟩) q_1152 (t_law_M sz) ⟨by rw [hR]; exact Nat.le_of_ble_eq_true rfl, by rw [hR]; exact Nat.le_of_ble_eq_true rfl⟩ (Nat.le_of_ble_eq_true rfl) dL_law_266 (fun v2 g2 => ?_)
  unfold zcont
  refine z_icmp_eq (tgt := 1045) F dL_law_269 (by decide) (fun c1 => ?_) (fun c1 => ?_)
  · refine z_iinc (v := l3 + 4) (lv' := [(3, .int (l3 + 4)), (0, .ref b), (1, .ref sz), (2, .ref (sz + 53))]) F 3 rfl (congrArg (l3 + ·) (by decide)) (by decide) dL_law_1045 rfl ?_
    refine z_goto (tgt := 18) F dL_law_1048 (by decide) ?_
    refine z_sub (lv' := [(0, .ref b), (1, .ref sz), (2, .ref (sz + 53)), (3, .int (l3 + 4))]) [1, 2, 3, 0] rfl ?_
    exact z_back (fun h => h)
  · exact z_no (fun h => absurd (show (0 : Int32) = 1 from h) (by decide))
def lc_4 (L : Nat) (xs : Nat → Int32) (sz : Nat) (l3 : Int32) (g : zG) : Option zlR :=
  zc (zin (l3 + 1) L) (zb (f_X9_rule sz (xs (l3 + 1).toNatClampNeg) g) (fun v1 g1 => zc (zin (l3 + 1) L) (zb (f_X10_rule (sz + 53) (xs (l3 + 1).toNatClampNeg) g1) (fun v2 g2 => zcont l3 v1 v2 g2))))
set_option maxRecDepth 100000 in
set_option maxHeartbeats 4000000 in
theorem ltc_4 {E : zE} {D : zD} {A : Nat → Prop} {Q : State → Prop} {b L sz : Nat} {xs : Nat → Int32} (F : zF E D A cL_law "TypeChainLaw" 4 (some .boolean)) (hR : E.2.2.2.1 = room_1) (hX : va_X b L xs E.2.2.2.2.1 E.2.2.2.2.1.heap) (hbl : b < E.2.2.2.2.1.heap.size) (hbA : ¬ A b) (l3 : Int32) (g : zG) : zSim (zKl (fun s : Int32 × zG => zAt E D A Q 4 (zkl sz) s.2 18 [(0, .ref b), (1, .ref sz), (2, .ref (sz + 53)), (3, .int s.1)] []) (fun q : Int32 × zG => q.1 = 1)) (lc_4 L xs sz l3 g) (zAt E D A Q 4 (zkl sz) g 274 [(0, .ref b), (1, .ref sz), (2, .ref (sz + 53)), (3, .int l3)] []) := by
  unfold lc_4
  refine z_aload_n F 1 rfl rfl dL_law_274 ?_
  refine z_aload_n F 0 rfl rfl dL_law_275 ?_
  refine z_iload_n F 3 rfl rfl dL_law_276 ?_
  refine z_iconst (v := 1) F (by decide) dL_law_277 ?_
  refine z_iadd F dL_law_278 ?_
  refine z_sld F hX hbl hbA dL_law_279 ?_
  refine k_X9_rule (κ := zkl sz) F (by rw [hR]; exact ⟨by decide, by decide⟩) q_565 (t_law_X sz) ⟨by rw [hR]; exact Nat.le_of_ble_eq_true rfl, by rw [hR]; exact Nat.le_of_ble_eq_true rfl⟩ (Nat.le_of_ble_eq_true rfl) dL_law_280 (fun v1 g1 => ?_)
  refine z_aload_n F 2 rfl rfl dL_law_283 ?_
  refine z_aload_n F 0 rfl rfl dL_law_284 ?_
  refine z_iload_n F 3 rfl rfl dL_law_285 ?_
  refine z_iconst (v := 1) F (by decide) dL_law_286 ?_
  refine z_iadd F dL_law_287 ?_
  refine z_sld F hX hbl hbA dL_law_288 ?_
  refine k_X10_rule (κ := zkl sz) F (by rw [hR]; exact ⟨by decide, by decide⟩) q_1156 (t_law_M sz) ⟨by rw [hR]; exact Nat.le_of_ble_eq_true rfl, by rw [hR]; exact Nat.le_of_ble_eq_true rfl⟩ (Nat.le_of_ble_eq_true rfl) dL_law_289 (fun v2 g2 => ?_)
  unfold zcont
  refine z_icmp_eq (tgt := 1045) F dL_law_292 (by decide) (fun c1 => ?_) (fun c1 => ?_)
  · refine z_iinc (v := l3 + 4) (lv' := [(3, .int (l3 + 4)), (0, .ref b), (1, .ref sz), (2, .ref (sz + 53))]) F 3 rfl (congrArg (l3 + ·) (by decide)) (by decide) dL_law_1045 rfl ?_
    refine z_goto (tgt := 18) F dL_law_1048 (by decide) ?_
    refine z_sub (lv' := [(0, .ref b), (1, .ref sz), (2, .ref (sz + 53)), (3, .int (l3 + 4))]) [1, 2, 3, 0] rfl ?_
    exact z_back (fun h => h)
  · exact z_no (fun h => absurd (show (0 : Int32) = 1 from h) (by decide))
def lc_5 (L : Nat) (xs : Nat → Int32) (sz : Nat) (l3 : Int32) (g : zG) : Option zlR :=
  zc (zin (l3 + 1) L) (zb (f_X9_slug sz (xs (l3 + 1).toNatClampNeg) g) (fun v1 g1 => zc (zin (l3 + 1) L) (zb (f_X10_slug (sz + 53) (xs (l3 + 1).toNatClampNeg) g1) (fun v2 g2 => zcont l3 v1 v2 g2))))
set_option maxRecDepth 100000 in
set_option maxHeartbeats 4000000 in
theorem ltc_5 {E : zE} {D : zD} {A : Nat → Prop} {Q : State → Prop} {b L sz : Nat} {xs : Nat → Int32} (F : zF E D A cL_law "TypeChainLaw" 4 (some .boolean)) (hR : E.2.2.2.1 = room_1) (hX : va_X b L xs E.2.2.2.2.1 E.2.2.2.2.1.heap) (hbl : b < E.2.2.2.2.1.heap.size) (hbA : ¬ A b) (l3 : Int32) (g : zG) : zSim (zKl (fun s : Int32 × zG => zAt E D A Q 4 (zkl sz) s.2 18 [(0, .ref b), (1, .ref sz), (2, .ref (sz + 53)), (3, .int s.1)] []) (fun q : Int32 × zG => q.1 = 1)) (lc_5 L xs sz l3 g) (zAt E D A Q 4 (zkl sz) g 297 [(0, .ref b), (1, .ref sz), (2, .ref (sz + 53)), (3, .int l3)] []) := by
  unfold lc_5
  refine z_aload_n F 1 rfl rfl dL_law_297 ?_
  refine z_aload_n F 0 rfl rfl dL_law_298 ?_
  refine z_iload_n F 3 rfl rfl dL_law_299 ?_
  refine z_iconst (v := 1) F (by decide) dL_law_300 ?_
  refine z_iadd F dL_law_301 ?_
  refine z_sld F hX hbl hbA dL_law_302 ?_
  refine k_X9_slug (κ := zkl sz) F (by rw [hR]; exact ⟨by decide, by decide⟩) q_569 (t_law_X sz) ⟨by rw [hR]; exact Nat.le_of_ble_eq_true rfl, by rw [hR]; exact Nat.le_of_ble_eq_true rfl⟩ (Nat.le_of_ble_eq_true rfl) dL_law_303 (fun v1 g1 => ?_)
  refine z_aload_n F 2 rfl rfl dL_law_306 ?_
  refine z_aload_n F 0 rfl rfl dL_law_307 ?_
  refine z_iload_n F 3 rfl rfl dL_law_308 ?_
  refine z_iconst (v := 1) F (by decide) dL_law_309 ?_
  refine z_iadd F dL_law_310 ?_
  refine z_sld F hX hbl hbA dL_law_311 ?_
  refine k_X10_slug (κ := zkl sz) F (by rw [hR]; exact ⟨by decide, by decide⟩) q_1161 (t_law_M sz) ⟨by rw [hR]; exact Nat.le_of_ble_eq_true rfl, by rw [hR]; exact Nat.le_of_ble_eq_true rfl⟩ (Nat.le_of_ble_eq_true rfl) dL_law_312 (fun v2 g2 => ?_)
  unfold zcont
  refine z_icmp_eq (tgt := 1045) F dL_law_315 (by decide) (fun c1 => ?_) (fun c1 => ?_)
  · refine z_iinc (v := l3 + 4) (lv' := [(3, .int (l3 + 4)), (0, .ref b), (1, .ref sz), (2, .ref (sz + 53))]) F 3 rfl (congrArg (l3 + ·) (by decide)) (by decide) dL_law_1045 rfl ?_
    refine z_goto (tgt := 18) F dL_law_1048 (by decide) ?_
    refine z_sub (lv' := [(0, .ref b), (1, .ref sz), (2, .ref (sz + 53)), (3, .int (l3 + 4))]) [1, 2, 3, 0] rfl ?_
    exact z_back (fun h => h)
  · exact z_no (fun h => absurd (show (0 : Int32) = 1 from h) (by decide))
def lc_6 (L : Nat) (xs : Nat → Int32) (sz : Nat) (l3 : Int32) (g : zG) : Option zlR :=
  zc (zin (l3 + 1) L) (zb (f_X9_holes sz (xs (l3 + 1).toNatClampNeg) g) (fun v1 g1 => zc (zin (l3 + 1) L) (zb (f_X10_holes (sz + 53) (xs (l3 + 1).toNatClampNeg) g1) (fun v2 g2 => zcont l3 v1 v2 g2))))
set_option maxRecDepth 100000 in
set_option maxHeartbeats 4000000 in
theorem ltc_6 {E : zE} {D : zD} {A : Nat → Prop} {Q : State → Prop} {b L sz : Nat} {xs : Nat → Int32} (F : zF E D A cL_law "TypeChainLaw" 4 (some .boolean)) (hR : E.2.2.2.1 = room_1) (hX : va_X b L xs E.2.2.2.2.1 E.2.2.2.2.1.heap) (hbl : b < E.2.2.2.2.1.heap.size) (hbA : ¬ A b) (l3 : Int32) (g : zG) : zSim (zKl (fun s : Int32 × zG => zAt E D A Q 4 (zkl sz) s.2 18 [(0, .ref b), (1, .ref sz), (2, .ref (sz + 53)), (3, .int s.1)] []) (fun q : Int32 × zG => q.1 = 1)) (lc_6 L xs sz l3 g) (zAt E D A Q 4 (zkl sz) g 320 [(0, .ref b), (1, .ref sz), (2, .ref (sz + 53)), (3, .int l3)] []) := by
  unfold lc_6
  refine z_aload_n F 1 rfl rfl dL_law_320 ?_
  refine z_aload_n F 0 rfl rfl dL_law_321 ?_
  refine z_iload_n F 3 rfl rfl dL_law_322 ?_
  refine z_iconst (v := 1) F (by decide) dL_law_323 ?_
  refine z_iadd F dL_law_324 ?_
  refine z_sld F hX hbl hbA dL_law_325 ?_
  refine k_X9_holes (κ := zkl sz) F (by rw [hR]; exact ⟨by decide, by decide⟩) q_573 (t_law_X sz) ⟨by rw [hR]; exact Nat.le_of_ble_eq_true rfl, by rw [hR]; exact Nat.le_of_ble_eq_true rfl⟩ (Nat.le_of_ble_eq_true rfl) dL_law_326 (fun v1 g1 => ?_)
  refine z_aload_n F 2 rfl rfl dL_law_329 ?_
  refine z_aload_n F 0 rfl rfl dL_law_330 ?_
  refine z_iload_n F 3 rfl rfl dL_law_331 ?_
  refine z_iconst (v := 1) F (by decide) dL_law_332 ?_
  refine z_iadd F dL_law_333 ?_
  refine z_sld F hX hbl hbA dL_law_334 ?_
  refine k_X10_holes (κ := zkl sz) F (by rw [hR]; exact ⟨by decide, by decide⟩) q_1165 (t_law_M sz) ⟨by rw [hR]; exact Nat.le_of_ble_eq_true rfl, by rw [hR]; exact Nat.le_of_ble_eq_true rfl⟩ (Nat.le_of_ble_eq_true rfl) dL_law_335 (fun v2 g2 => ?_)
  unfold zcont
  refine z_icmp_eq (tgt := 1045) F dL_law_338 (by decide) (fun c1 => ?_) (fun c1 => ?_)
  · refine z_iinc (v := l3 + 4) (lv' := [(3, .int (l3 + 4)), (0, .ref b), (1, .ref sz), (2, .ref (sz + 53))]) F 3 rfl (congrArg (l3 + ·) (by decide)) (by decide) dL_law_1045 rfl ?_
    refine z_goto (tgt := 18) F dL_law_1048 (by decide) ?_
    refine z_sub (lv' := [(0, .ref b), (1, .ref sz), (2, .ref (sz + 53)), (3, .int (l3 + 4))]) [1, 2, 3, 0] rfl ?_
    exact z_back (fun h => h)
  · exact z_no (fun h => absurd (show (0 : Int32) = 1 from h) (by decide))
def lc_7 (L : Nat) (xs : Nat → Int32) (sz : Nat) (l3 : Int32) (g : zG) : Option zlR :=
  zc (zin (l3 + 1) L) (zc (zin (l3 + 2) L) (zb (f_X9_order sz (xs (l3 + 1).toNatClampNeg) (xs (l3 + 2).toNatClampNeg) g) (fun v1 g1 => zc (zin (l3 + 1) L) (zc (zin (l3 + 2) L) (zb (f_X10_order (sz + 53) (xs (l3 + 1).toNatClampNeg) (xs (l3 + 2).toNatClampNeg) g1) (fun v2 g2 => zcont l3 v1 v2 g2))))))
set_option maxRecDepth 100000 in
set_option maxHeartbeats 4000000 in
theorem ltc_7 {E : zE} {D : zD} {A : Nat → Prop} {Q : State → Prop} {b L sz : Nat} {xs : Nat → Int32} (F : zF E D A cL_law "TypeChainLaw" 4 (some .boolean)) (hR : E.2.2.2.1 = room_1) (hX : va_X b L xs E.2.2.2.2.1 E.2.2.2.2.1.heap) (hbl : b < E.2.2.2.2.1.heap.size) (hbA : ¬ A b) (l3 : Int32) (g : zG) : zSim (zKl (fun s : Int32 × zG => zAt E D A Q 4 (zkl sz) s.2 18 [(0, .ref b), (1, .ref sz), (2, .ref (sz + 53)), (3, .int s.1)] []) (fun q : Int32 × zG => q.1 = 1)) (lc_7 L xs sz l3 g) (zAt E D A Q 4 (zkl sz) g 343 [(0, .ref b), (1, .ref sz), (2, .ref (sz + 53)), (3, .int l3)] []) := by
  unfold lc_7
  refine z_aload_n F 1 rfl rfl dL_law_343 ?_
  refine z_aload_n F 0 rfl rfl dL_law_344 ?_
  refine z_iload_n F 3 rfl rfl dL_law_345 ?_
  refine z_iconst (v := 1) F (by decide) dL_law_346 ?_
  refine z_iadd F dL_law_347 ?_
  refine z_sld F hX hbl hbA dL_law_348 ?_
  refine z_aload_n F 0 rfl rfl dL_law_349 ?_
  refine z_iload_n F 3 rfl rfl dL_law_350 ?_
  refine z_iconst (v := 2) F (by decide) dL_law_351 ?_
  refine z_iadd F dL_law_352 ?_
  refine z_sld F hX hbl hbA dL_law_353 ?_
  refine k_X9_order (κ := zkl sz) F (by rw [hR]; exact ⟨by decide, by decide⟩) q_581 (t_law_X sz) ⟨by rw [hR]; exact Nat.le_of_ble_eq_true rfl, by rw [hR]; exact Nat.le_of_ble_eq_true rfl⟩ (Nat.le_of_ble_eq_true rfl) dL_law_354 (fun v1 g1 => ?_)
  refine z_aload_n F 2 rfl rfl dL_law_357 ?_
  refine z_aload_n F 0 rfl rfl dL_law_358 ?_
  refine z_iload_n F 3 rfl rfl dL_law_359 ?_
  refine z_iconst (v := 1) F (by decide) dL_law_360 ?_
  refine z_iadd F dL_law_361 ?_
  refine z_sld F hX hbl hbA dL_law_362 ?_
  refine z_aload_n F 0 rfl rfl dL_law_363 ?_
  refine z_iload_n F 3 rfl rfl dL_law_364 ?_
  refine z_iconst (v := 2) F (by decide) dL_law_365 ?_
  refine z_iadd F dL_law_366 ?_
  refine z_sld F hX hbl hbA dL_law_367 ?_
  refine k_X10_order (κ := zkl sz) F (by rw [hR]; exact ⟨by decide, by decide⟩) q_1169 (t_law_M sz) ⟨by rw [hR]; exact Nat.le_of_ble_eq_true rfl, by rw [hR]; exact Nat.le_of_ble_eq_true rfl⟩ (Nat.le_of_ble_eq_true rfl) dL_law_368 (fun v2 g2 => ?_)
  unfold zcont
  refine z_icmp_eq (tgt := 1045) F dL_law_371 (by decide) (fun c1 => ?_) (fun c1 => ?_)
  · refine z_iinc (v := l3 + 4) (lv' := [(3, .int (l3 + 4)), (0, .ref b), (1, .ref sz), (2, .ref (sz + 53))]) F 3 rfl (congrArg (l3 + ·) (by decide)) (by decide) dL_law_1045 rfl ?_
    refine z_goto (tgt := 18) F dL_law_1048 (by decide) ?_
    refine z_sub (lv' := [(0, .ref b), (1, .ref sz), (2, .ref (sz + 53)), (3, .int (l3 + 4))]) [1, 2, 3, 0] rfl ?_
    exact z_back (fun h => h)
  · exact z_no (fun h => absurd (show (0 : Int32) = 1 from h) (by decide))
def lc_8 (L : Nat) (xs : Nat → Int32) (sz : Nat) (l3 : Int32) (g : zG) : Option zlR :=
  zc (zin (l3 + 1) L) (zc (zin (l3 + 2) L) (zb (f_X9_faces sz (xs (l3 + 1).toNatClampNeg) (xs (l3 + 2).toNatClampNeg) g) (fun v1 g1 => zc (zin (l3 + 1) L) (zc (zin (l3 + 2) L) (zb (f_X10_faces (sz + 53) (xs (l3 + 1).toNatClampNeg) (xs (l3 + 2).toNatClampNeg) g1) (fun v2 g2 => zcont l3 v1 v2 g2))))))
set_option maxRecDepth 100000 in
set_option maxHeartbeats 4000000 in
theorem ltc_8 {E : zE} {D : zD} {A : Nat → Prop} {Q : State → Prop} {b L sz : Nat} {xs : Nat → Int32} (F : zF E D A cL_law "TypeChainLaw" 4 (some .boolean)) (hR : E.2.2.2.1 = room_1) (hX : va_X b L xs E.2.2.2.2.1 E.2.2.2.2.1.heap) (hbl : b < E.2.2.2.2.1.heap.size) (hbA : ¬ A b) (l3 : Int32) (g : zG) : zSim (zKl (fun s : Int32 × zG => zAt E D A Q 4 (zkl sz) s.2 18 [(0, .ref b), (1, .ref sz), (2, .ref (sz + 53)), (3, .int s.1)] []) (fun q : Int32 × zG => q.1 = 1)) (lc_8 L xs sz l3 g) (zAt E D A Q 4 (zkl sz) g 376 [(0, .ref b), (1, .ref sz), (2, .ref (sz + 53)), (3, .int l3)] []) := by
  unfold lc_8
  refine z_aload_n F 1 rfl rfl dL_law_376 ?_
  refine z_aload_n F 0 rfl rfl dL_law_377 ?_
  refine z_iload_n F 3 rfl rfl dL_law_378 ?_
  refine z_iconst (v := 1) F (by decide) dL_law_379 ?_
  refine z_iadd F dL_law_380 ?_
  refine z_sld F hX hbl hbA dL_law_381 ?_
  refine z_aload_n F 0 rfl rfl dL_law_382 ?_
  refine z_iload_n F 3 rfl rfl dL_law_383 ?_
  refine z_iconst (v := 2) F (by decide) dL_law_384 ?_
  refine z_iadd F dL_law_385 ?_
  refine z_sld F hX hbl hbA dL_law_386 ?_
  refine k_X9_faces (κ := zkl sz) F (by rw [hR]; exact ⟨by decide, by decide⟩) q_589 (t_law_X sz) ⟨by rw [hR]; exact Nat.le_of_ble_eq_true rfl, by rw [hR]; exact Nat.le_of_ble_eq_true rfl⟩ (Nat.le_of_ble_eq_true rfl) dL_law_387 (fun v1 g1 => ?_)
  refine z_aload_n F 2 rfl rfl dL_law_390 ?_
  refine z_aload_n F 0 rfl rfl dL_law_391 ?_
  refine z_iload_n F 3 rfl rfl dL_law_392 ?_
  refine z_iconst (v := 1) F (by decide) dL_law_393 ?_
  refine z_iadd F dL_law_394 ?_
  refine z_sld F hX hbl hbA dL_law_395 ?_
  refine z_aload_n F 0 rfl rfl dL_law_396 ?_
  refine z_iload_n F 3 rfl rfl dL_law_397 ?_
  refine z_iconst (v := 2) F (by decide) dL_law_398 ?_
  refine z_iadd F dL_law_399 ?_
  refine z_sld F hX hbl hbA dL_law_400 ?_
  refine k_X10_faces (κ := zkl sz) F (by rw [hR]; exact ⟨by decide, by decide⟩) q_1174 (t_law_M sz) ⟨by rw [hR]; exact Nat.le_of_ble_eq_true rfl, by rw [hR]; exact Nat.le_of_ble_eq_true rfl⟩ (Nat.le_of_ble_eq_true rfl) dL_law_401 (fun v2 g2 => ?_)
  unfold zcont
  refine z_icmp_eq (tgt := 1045) F dL_law_404 (by decide) (fun c1 => ?_) (fun c1 => ?_)
  · refine z_iinc (v := l3 + 4) (lv' := [(3, .int (l3 + 4)), (0, .ref b), (1, .ref sz), (2, .ref (sz + 53))]) F 3 rfl (congrArg (l3 + ·) (by decide)) (by decide) dL_law_1045 rfl ?_
    refine z_goto (tgt := 18) F dL_law_1048 (by decide) ?_
    refine z_sub (lv' := [(0, .ref b), (1, .ref sz), (2, .ref (sz + 53)), (3, .int (l3 + 4))]) [1, 2, 3, 0] rfl ?_
    exact z_back (fun h => h)
  · exact z_no (fun h => absurd (show (0 : Int32) = 1 from h) (by decide))
def lc_9 (L : Nat) (xs : Nat → Int32) (sz : Nat) (l3 : Int32) (g : zG) : Option zlR :=
  zc (zin (l3 + 1) L) (zc (zin (l3 + 2) L) (zc (zin (l3 + 3) L) (zb (f_X9_comes sz (xs (l3 + 1).toNatClampNeg) (xs (l3 + 2).toNatClampNeg) (xs (l3 + 3).toNatClampNeg) g) (fun v1 g1 => zc (zin (l3 + 1) L) (zc (zin (l3 + 2) L) (zc (zin (l3 + 3) L) (zb (f_X10_comes (sz + 53) (xs (l3 + 1).toNatClampNeg) (xs (l3 + 2).toNatClampNeg) (xs (l3 + 3).toNatClampNeg) g1) (fun v2 g2 => zcont l3 v1 v2 g2))))))))
set_option maxRecDepth 100000 in
set_option maxHeartbeats 4000000 in
theorem ltc_9 {E : zE} {D : zD} {A : Nat → Prop} {Q : State → Prop} {b L sz : Nat} {xs : Nat → Int32} (F : zF E D A cL_law "TypeChainLaw" 4 (some .boolean)) (hR : E.2.2.2.1 = room_1) (hX : va_X b L xs E.2.2.2.2.1 E.2.2.2.2.1.heap) (hbl : b < E.2.2.2.2.1.heap.size) (hbA : ¬ A b) (l3 : Int32) (g : zG) : zSim (zKl (fun s : Int32 × zG => zAt E D A Q 4 (zkl sz) s.2 18 [(0, .ref b), (1, .ref sz), (2, .ref (sz + 53)), (3, .int s.1)] []) (fun q : Int32 × zG => q.1 = 1)) (lc_9 L xs sz l3 g) (zAt E D A Q 4 (zkl sz) g 409 [(0, .ref b), (1, .ref sz), (2, .ref (sz + 53)), (3, .int l3)] []) := by
  unfold lc_9
  refine z_aload_n F 1 rfl rfl dL_law_409 ?_
  refine z_aload_n F 0 rfl rfl dL_law_410 ?_
  refine z_iload_n F 3 rfl rfl dL_law_411 ?_
  refine z_iconst (v := 1) F (by decide) dL_law_412 ?_
  refine z_iadd F dL_law_413 ?_
  refine z_sld F hX hbl hbA dL_law_414 ?_
  refine z_aload_n F 0 rfl rfl dL_law_415 ?_
  refine z_iload_n F 3 rfl rfl dL_law_416 ?_
  refine z_iconst (v := 2) F (by decide) dL_law_417 ?_
  refine z_iadd F dL_law_418 ?_
  refine z_sld F hX hbl hbA dL_law_419 ?_
  refine z_aload_n F 0 rfl rfl dL_law_420 ?_
  refine z_iload_n F 3 rfl rfl dL_law_421 ?_
  refine z_iconst (v := 3) F (by decide) dL_law_422 ?_
  refine z_iadd F dL_law_423 ?_
  refine z_sld F hX hbl hbA dL_law_424 ?_
  refine k_X9_comes (κ := zkl sz) F (by rw [hR]; exact ⟨by decide, by decide⟩) q_609 (t_law_X sz) ⟨by rw [hR]; exact Nat.le_of_ble_eq_true rfl, by rw [hR]; exact Nat.le_of_ble_eq_true rfl⟩ (Nat.le_of_ble_eq_true rfl) dL_law_425 (fun v1 g1 => ?_)
  refine z_aload_n F 2 rfl rfl dL_law_428 ?_
  refine z_aload_n F 0 rfl rfl dL_law_429 ?_
  refine z_iload_n F 3 rfl rfl dL_law_430 ?_
  refine z_iconst (v := 1) F (by decide) dL_law_431 ?_
  refine z_iadd F dL_law_432 ?_
  refine z_sld F hX hbl hbA dL_law_433 ?_
  refine z_aload_n F 0 rfl rfl dL_law_434 ?_
  refine z_iload_n F 3 rfl rfl dL_law_435 ?_
  refine z_iconst (v := 2) F (by decide) dL_law_436 ?_
  refine z_iadd F dL_law_437 ?_
  refine z_sld F hX hbl hbA dL_law_438 ?_
  refine z_aload_n F 0 rfl rfl dL_law_439 ?_
  refine z_iload_n F 3 rfl rfl dL_law_440 ?_
  refine z_iconst (v := 3) F (by decide) dL_law_441 ?_
  refine z_iadd F dL_law_442 ?_
  refine z_sld F hX hbl hbA dL_law_443 ?_
  refine k_X10_comes (κ := zkl sz) F (by rw [hR]; exact ⟨by decide, by decide⟩) q_1191 (t_law_M sz) ⟨by rw [hR]; exact Nat.le_of_ble_eq_true rfl, by rw [hR]; exact Nat.le_of_ble_eq_true rfl⟩ (Nat.le_of_ble_eq_true rfl) dL_law_444 (fun v2 g2 => ?_)
  unfold zcont
  refine z_icmp_eq (tgt := 1045) F dL_law_447 (by decide) (fun c1 => ?_) (fun c1 => ?_)
  · refine z_iinc (v := l3 + 4) (lv' := [(3, .int (l3 + 4)), (0, .ref b), (1, .ref sz), (2, .ref (sz + 53))]) F 3 rfl (congrArg (l3 + ·) (by decide)) (by decide) dL_law_1045 rfl ?_
    refine z_goto (tgt := 18) F dL_law_1048 (by decide) ?_
    refine z_sub (lv' := [(0, .ref b), (1, .ref sz), (2, .ref (sz + 53)), (3, .int (l3 + 4))]) [1, 2, 3, 0] rfl ?_
    exact z_back (fun h => h)
  · exact z_no (fun h => absurd (show (0 : Int32) = 1 from h) (by decide))
def lc_10 (L : Nat) (xs : Nat → Int32) (sz : Nat) (l3 : Int32) (g : zG) : Option zlR :=
  zc (zin (l3 + 1) L) (zc (zin (l3 + 2) L) (zc (zin (l3 + 3) L) (zb (f_X9_late sz (xs (l3 + 1).toNatClampNeg) (xs (l3 + 2).toNatClampNeg) (xs (l3 + 3).toNatClampNeg) g) (fun v1 g1 => zc (zin (l3 + 1) L) (zc (zin (l3 + 2) L) (zc (zin (l3 + 3) L) (zb (f_X10_late (sz + 53) (xs (l3 + 1).toNatClampNeg) (xs (l3 + 2).toNatClampNeg) (xs (l3 + 3).toNatClampNeg) g1) (fun v2 g2 => zcont l3 v1 v2 g2))))))))
set_option maxRecDepth 100000 in
set_option maxHeartbeats 4000000 in
theorem ltc_10 {E : zE} {D : zD} {A : Nat → Prop} {Q : State → Prop} {b L sz : Nat} {xs : Nat → Int32} (F : zF E D A cL_law "TypeChainLaw" 4 (some .boolean)) (hR : E.2.2.2.1 = room_1) (hX : va_X b L xs E.2.2.2.2.1 E.2.2.2.2.1.heap) (hbl : b < E.2.2.2.2.1.heap.size) (hbA : ¬ A b) (l3 : Int32) (g : zG) : zSim (zKl (fun s : Int32 × zG => zAt E D A Q 4 (zkl sz) s.2 18 [(0, .ref b), (1, .ref sz), (2, .ref (sz + 53)), (3, .int s.1)] []) (fun q : Int32 × zG => q.1 = 1)) (lc_10 L xs sz l3 g) (zAt E D A Q 4 (zkl sz) g 452 [(0, .ref b), (1, .ref sz), (2, .ref (sz + 53)), (3, .int l3)] []) := by
  unfold lc_10
  refine z_aload_n F 1 rfl rfl dL_law_452 ?_
  refine z_aload_n F 0 rfl rfl dL_law_453 ?_
  refine z_iload_n F 3 rfl rfl dL_law_454 ?_
  refine z_iconst (v := 1) F (by decide) dL_law_455 ?_
  refine z_iadd F dL_law_456 ?_
  refine z_sld F hX hbl hbA dL_law_457 ?_
  refine z_aload_n F 0 rfl rfl dL_law_458 ?_
  refine z_iload_n F 3 rfl rfl dL_law_459 ?_
  refine z_iconst (v := 2) F (by decide) dL_law_460 ?_
  refine z_iadd F dL_law_461 ?_
  refine z_sld F hX hbl hbA dL_law_462 ?_
  refine z_aload_n F 0 rfl rfl dL_law_463 ?_
  refine z_iload_n F 3 rfl rfl dL_law_464 ?_
  refine z_iconst (v := 3) F (by decide) dL_law_465 ?_
  refine z_iadd F dL_law_466 ?_
  refine z_sld F hX hbl hbA dL_law_467 ?_
  refine k_X9_late (κ := zkl sz) F (by rw [hR]; exact ⟨by decide, by decide⟩) q_620 (t_law_X sz) ⟨by rw [hR]; exact Nat.le_of_ble_eq_true rfl, by rw [hR]; exact Nat.le_of_ble_eq_true rfl⟩ (Nat.le_of_ble_eq_true rfl) dL_law_468 (fun v1 g1 => ?_)
  refine z_aload_n F 2 rfl rfl dL_law_471 ?_
  refine z_aload_n F 0 rfl rfl dL_law_472 ?_
  refine z_iload_n F 3 rfl rfl dL_law_473 ?_
  refine z_iconst (v := 1) F (by decide) dL_law_474 ?_
  refine z_iadd F dL_law_475 ?_
  refine z_sld F hX hbl hbA dL_law_476 ?_
  refine z_aload_n F 0 rfl rfl dL_law_477 ?_
  refine z_iload_n F 3 rfl rfl dL_law_478 ?_
  refine z_iconst (v := 2) F (by decide) dL_law_479 ?_
  refine z_iadd F dL_law_480 ?_
  refine z_sld F hX hbl hbA dL_law_481 ?_
  refine z_aload_n F 0 rfl rfl dL_law_482 ?_
  refine z_iload_n F 3 rfl rfl dL_law_483 ?_
  refine z_iconst (v := 3) F (by decide) dL_law_484 ?_
  refine z_iadd F dL_law_485 ?_
  refine z_sld F hX hbl hbA dL_law_486 ?_
  refine k_X10_late (κ := zkl sz) F (by rw [hR]; exact ⟨by decide, by decide⟩) q_1204 (t_law_M sz) ⟨by rw [hR]; exact Nat.le_of_ble_eq_true rfl, by rw [hR]; exact Nat.le_of_ble_eq_true rfl⟩ (Nat.le_of_ble_eq_true rfl) dL_law_487 (fun v2 g2 => ?_)
  unfold zcont
  refine z_icmp_eq (tgt := 1045) F dL_law_490 (by decide) (fun c1 => ?_) (fun c1 => ?_)
  · refine z_iinc (v := l3 + 4) (lv' := [(3, .int (l3 + 4)), (0, .ref b), (1, .ref sz), (2, .ref (sz + 53))]) F 3 rfl (congrArg (l3 + ·) (by decide)) (by decide) dL_law_1045 rfl ?_
    refine z_goto (tgt := 18) F dL_law_1048 (by decide) ?_
    refine z_sub (lv' := [(0, .ref b), (1, .ref sz), (2, .ref (sz + 53)), (3, .int (l3 + 4))]) [1, 2, 3, 0] rfl ?_
    exact z_back (fun h => h)
  · exact z_no (fun h => absurd (show (0 : Int32) = 1 from h) (by decide))
def lc_11 (L : Nat) (xs : Nat → Int32) (sz : Nat) (l3 : Int32) (g : zG) : Option zlR :=
  zc (zin (l3 + 1) L) (zc (zin (l3 + 2) L) (zb (f_X9_put sz (xs (l3 + 1).toNatClampNeg) (xs (l3 + 2).toNatClampNeg) g) (fun v1 g1 => zc (zin (l3 + 1) L) (zc (zin (l3 + 2) L) (zb (f_X10_put (sz + 53) (xs (l3 + 1).toNatClampNeg) (xs (l3 + 2).toNatClampNeg) g1) (fun v2 g2 => zcont l3 v1 v2 g2))))))
set_option maxRecDepth 100000 in
set_option maxHeartbeats 4000000 in
theorem ltc_11 {E : zE} {D : zD} {A : Nat → Prop} {Q : State → Prop} {b L sz : Nat} {xs : Nat → Int32} (F : zF E D A cL_law "TypeChainLaw" 4 (some .boolean)) (hR : E.2.2.2.1 = room_1) (hX : va_X b L xs E.2.2.2.2.1 E.2.2.2.2.1.heap) (hbl : b < E.2.2.2.2.1.heap.size) (hbA : ¬ A b) (l3 : Int32) (g : zG) : zSim (zKl (fun s : Int32 × zG => zAt E D A Q 4 (zkl sz) s.2 18 [(0, .ref b), (1, .ref sz), (2, .ref (sz + 53)), (3, .int s.1)] []) (fun q : Int32 × zG => q.1 = 1)) (lc_11 L xs sz l3 g) (zAt E D A Q 4 (zkl sz) g 495 [(0, .ref b), (1, .ref sz), (2, .ref (sz + 53)), (3, .int l3)] []) := by
  unfold lc_11
  refine z_aload_n F 1 rfl rfl dL_law_495 ?_
  refine z_aload_n F 0 rfl rfl dL_law_496 ?_
  refine z_iload_n F 3 rfl rfl dL_law_497 ?_
  refine z_iconst (v := 1) F (by decide) dL_law_498 ?_
  refine z_iadd F dL_law_499 ?_
  refine z_sld F hX hbl hbA dL_law_500 ?_
  refine z_aload_n F 0 rfl rfl dL_law_501 ?_
  refine z_iload_n F 3 rfl rfl dL_law_502 ?_
  refine z_iconst (v := 2) F (by decide) dL_law_503 ?_
  refine z_iadd F dL_law_504 ?_
  refine z_sld F hX hbl hbA dL_law_505 ?_
  refine k_X9_put (κ := zkl sz) F (by rw [hR]; exact ⟨by decide, by decide⟩) q_624 (t_law_X sz) ⟨by rw [hR]; exact Nat.le_of_ble_eq_true rfl, by rw [hR]; exact Nat.le_of_ble_eq_true rfl⟩ (Nat.le_of_ble_eq_true rfl) dL_law_506 (fun v1 g1 => ?_)
  refine z_aload_n F 2 rfl rfl dL_law_509 ?_
  refine z_aload_n F 0 rfl rfl dL_law_510 ?_
  refine z_iload_n F 3 rfl rfl dL_law_511 ?_
  refine z_iconst (v := 1) F (by decide) dL_law_512 ?_
  refine z_iadd F dL_law_513 ?_
  refine z_sld F hX hbl hbA dL_law_514 ?_
  refine z_aload_n F 0 rfl rfl dL_law_515 ?_
  refine z_iload_n F 3 rfl rfl dL_law_516 ?_
  refine z_iconst (v := 2) F (by decide) dL_law_517 ?_
  refine z_iadd F dL_law_518 ?_
  refine z_sld F hX hbl hbA dL_law_519 ?_
  refine k_X10_put (κ := zkl sz) F (by rw [hR]; exact ⟨by decide, by decide⟩) q_1210 (t_law_M sz) ⟨by rw [hR]; exact Nat.le_of_ble_eq_true rfl, by rw [hR]; exact Nat.le_of_ble_eq_true rfl⟩ (Nat.le_of_ble_eq_true rfl) dL_law_520 (fun v2 g2 => ?_)
  unfold zcont
  refine z_icmp_eq (tgt := 1045) F dL_law_523 (by decide) (fun c1 => ?_) (fun c1 => ?_)
  · refine z_iinc (v := l3 + 4) (lv' := [(3, .int (l3 + 4)), (0, .ref b), (1, .ref sz), (2, .ref (sz + 53))]) F 3 rfl (congrArg (l3 + ·) (by decide)) (by decide) dL_law_1045 rfl ?_
    refine z_goto (tgt := 18) F dL_law_1048 (by decide) ?_
    refine z_sub (lv' := [(0, .ref b), (1, .ref sz), (2, .ref (sz + 53)), (3, .int (l3 + 4))]) [1, 2, 3, 0] rfl ?_
    exact z_back (fun h => h)
  · exact z_no (fun h => absurd (show (0 : Int32) = 1 from h) (by decide))
def lc_12 (L : Nat) (xs : Nat → Int32) (sz : Nat) (l3 : Int32) (g : zG) : Option zlR :=
  zc (zin (l3 + 1) L) (zb (f_X9_line sz (xs (l3 + 1).toNatClampNeg) g) (fun v1 g1 => zc (zin (l3 + 1) L) (zb (f_X10_line (sz + 53) (xs (l3 + 1).toNatClampNeg) g1) (fun v2 g2 => zcont l3 v1 v2 g2))))
set_option maxRecDepth 100000 in
set_option maxHeartbeats 4000000 in
theorem ltc_12 {E : zE} {D : zD} {A : Nat → Prop} {Q : State → Prop} {b L sz : Nat} {xs : Nat → Int32} (F : zF E D A cL_law "TypeChainLaw" 4 (some .boolean)) (hR : E.2.2.2.1 = room_1) (hX : va_X b L xs E.2.2.2.2.1 E.2.2.2.2.1.heap) (hbl : b < E.2.2.2.2.1.heap.size) (hbA : ¬ A b) (l3 : Int32) (g : zG) : zSim (zKl (fun s : Int32 × zG => zAt E D A Q 4 (zkl sz) s.2 18 [(0, .ref b), (1, .ref sz), (2, .ref (sz + 53)), (3, .int s.1)] []) (fun q : Int32 × zG => q.1 = 1)) (lc_12 L xs sz l3 g) (zAt E D A Q 4 (zkl sz) g 528 [(0, .ref b), (1, .ref sz), (2, .ref (sz + 53)), (3, .int l3)] []) := by
  unfold lc_12
  refine z_aload_n F 1 rfl rfl dL_law_528 ?_
  refine z_aload_n F 0 rfl rfl dL_law_529 ?_
  refine z_iload_n F 3 rfl rfl dL_law_530 ?_
  refine z_iconst (v := 1) F (by decide) dL_law_531 ?_
  refine z_iadd F dL_law_532 ?_
  refine z_sld F hX hbl hbA dL_law_533 ?_
  refine k_X9_line (κ := zkl sz) F (by rw [hR]; exact ⟨by decide, by decide⟩) q_628 (t_law_X sz) ⟨by rw [hR]; exact Nat.le_of_ble_eq_true rfl, by rw [hR]; exact Nat.le_of_ble_eq_true rfl⟩ (Nat.le_of_ble_eq_true rfl) dL_law_534 (fun v1 g1 => ?_)
  refine z_aload_n F 2 rfl rfl dL_law_537 ?_
  refine z_aload_n F 0 rfl rfl dL_law_538 ?_
  refine z_iload_n F 3 rfl rfl dL_law_539 ?_
  refine z_iconst (v := 1) F (by decide) dL_law_540 ?_
  refine z_iadd F dL_law_541 ?_
  refine z_sld F hX hbl hbA dL_law_542 ?_
  refine k_X10_line (κ := zkl sz) F (by rw [hR]; exact ⟨by decide, by decide⟩) q_1214 (t_law_M sz) ⟨by rw [hR]; exact Nat.le_of_ble_eq_true rfl, by rw [hR]; exact Nat.le_of_ble_eq_true rfl⟩ (Nat.le_of_ble_eq_true rfl) dL_law_543 (fun v2 g2 => ?_)
  unfold zcont
  refine z_icmp_eq (tgt := 1045) F dL_law_546 (by decide) (fun c1 => ?_) (fun c1 => ?_)
  · refine z_iinc (v := l3 + 4) (lv' := [(3, .int (l3 + 4)), (0, .ref b), (1, .ref sz), (2, .ref (sz + 53))]) F 3 rfl (congrArg (l3 + ·) (by decide)) (by decide) dL_law_1045 rfl ?_
    refine z_goto (tgt := 18) F dL_law_1048 (by decide) ?_
    refine z_sub (lv' := [(0, .ref b), (1, .ref sz), (2, .ref (sz + 53)), (3, .int (l3 + 4))]) [1, 2, 3, 0] rfl ?_
    exact z_back (fun h => h)
  · exact z_no (fun h => absurd (show (0 : Int32) = 1 from h) (by decide))
def lc_13 (L : Nat) (xs : Nat → Int32) (sz : Nat) (l3 : Int32) (g : zG) : Option zlR :=
  zc (zin (l3 + 1) L) (zb (f_X9_ticks sz (xs (l3 + 1).toNatClampNeg) g) (fun v1 g1 => zc (zin (l3 + 1) L) (zb (f_X10_ticks (sz + 53) (xs (l3 + 1).toNatClampNeg) g1) (fun v2 g2 => zcont l3 v1 v2 g2))))
set_option maxRecDepth 100000 in
set_option maxHeartbeats 4000000 in
theorem ltc_13 {E : zE} {D : zD} {A : Nat → Prop} {Q : State → Prop} {b L sz : Nat} {xs : Nat → Int32} (F : zF E D A cL_law "TypeChainLaw" 4 (some .boolean)) (hR : E.2.2.2.1 = room_1) (hX : va_X b L xs E.2.2.2.2.1 E.2.2.2.2.1.heap) (hbl : b < E.2.2.2.2.1.heap.size) (hbA : ¬ A b) (l3 : Int32) (g : zG) : zSim (zKl (fun s : Int32 × zG => zAt E D A Q 4 (zkl sz) s.2 18 [(0, .ref b), (1, .ref sz), (2, .ref (sz + 53)), (3, .int s.1)] []) (fun q : Int32 × zG => q.1 = 1)) (lc_13 L xs sz l3 g) (zAt E D A Q 4 (zkl sz) g 551 [(0, .ref b), (1, .ref sz), (2, .ref (sz + 53)), (3, .int l3)] []) := by
  unfold lc_13
  refine z_aload_n F 1 rfl rfl dL_law_551 ?_
  refine z_aload_n F 0 rfl rfl dL_law_552 ?_
  refine z_iload_n F 3 rfl rfl dL_law_553 ?_
  refine z_iconst (v := 1) F (by decide) dL_law_554 ?_
  refine z_iadd F dL_law_555 ?_
  refine z_sld F hX hbl hbA dL_law_556 ?_
  refine k_X9_ticks (κ := zkl sz) F (by rw [hR]; exact ⟨by decide, by decide⟩) q_632 (t_law_X sz) ⟨by rw [hR]; exact Nat.le_of_ble_eq_true rfl, by rw [hR]; exact Nat.le_of_ble_eq_true rfl⟩ (Nat.le_of_ble_eq_true rfl) dL_law_557 (fun v1 g1 => ?_)
  refine z_aload_n F 2 rfl rfl dL_law_560 ?_
  refine z_aload_n F 0 rfl rfl dL_law_561 ?_
  refine z_iload_n F 3 rfl rfl dL_law_562 ?_
  refine z_iconst (v := 1) F (by decide) dL_law_563 ?_
  refine z_iadd F dL_law_564 ?_
  refine z_sld F hX hbl hbA dL_law_565 ?_
  refine k_X10_ticks (κ := zkl sz) F (by rw [hR]; exact ⟨by decide, by decide⟩) q_1218 (t_law_M sz) ⟨by rw [hR]; exact Nat.le_of_ble_eq_true rfl, by rw [hR]; exact Nat.le_of_ble_eq_true rfl⟩ (Nat.le_of_ble_eq_true rfl) dL_law_566 (fun v2 g2 => ?_)
  unfold zcont
  refine z_icmp_eq (tgt := 1045) F dL_law_569 (by decide) (fun c1 => ?_) (fun c1 => ?_)
  · refine z_iinc (v := l3 + 4) (lv' := [(3, .int (l3 + 4)), (0, .ref b), (1, .ref sz), (2, .ref (sz + 53))]) F 3 rfl (congrArg (l3 + ·) (by decide)) (by decide) dL_law_1045 rfl ?_
    refine z_goto (tgt := 18) F dL_law_1048 (by decide) ?_
    refine z_sub (lv' := [(0, .ref b), (1, .ref sz), (2, .ref (sz + 53)), (3, .int (l3 + 4))]) [1, 2, 3, 0] rfl ?_
    exact z_back (fun h => h)
  · exact z_no (fun h => absurd (show (0 : Int32) = 1 from h) (by decide))
def lc_14 (L : Nat) (xs : Nat → Int32) (sz : Nat) (l3 : Int32) (g : zG) : Option zlR :=
  zb (f_X9_go sz g) (fun v1 g1 => zb (f_X10_go (sz + 53) g1) (fun v2 g2 => zcont l3 v1 v2 g2))
set_option maxRecDepth 100000 in
set_option maxHeartbeats 4000000 in
theorem ltc_14 {E : zE} {D : zD} {A : Nat → Prop} {Q : State → Prop} {b L sz : Nat} {xs : Nat → Int32} (F : zF E D A cL_law "TypeChainLaw" 4 (some .boolean)) (hR : E.2.2.2.1 = room_1) (hX : va_X b L xs E.2.2.2.2.1 E.2.2.2.2.1.heap) (hbl : b < E.2.2.2.2.1.heap.size) (hbA : ¬ A b) (l3 : Int32) (g : zG) : zSim (zKl (fun s : Int32 × zG => zAt E D A Q 4 (zkl sz) s.2 18 [(0, .ref b), (1, .ref sz), (2, .ref (sz + 53)), (3, .int s.1)] []) (fun q : Int32 × zG => q.1 = 1)) (lc_14 L xs sz l3 g) (zAt E D A Q 4 (zkl sz) g 574 [(0, .ref b), (1, .ref sz), (2, .ref (sz + 53)), (3, .int l3)] []) := by
  unfold lc_14
  refine z_aload_n F 1 rfl rfl dL_law_574 ?_
  refine k_X9_go (κ := zkl sz) F (by rw [hR]; exact ⟨by decide, by decide⟩) q_667 (t_law_X sz) ⟨by rw [hR]; exact Nat.le_of_ble_eq_true rfl, by rw [hR]; exact Nat.le_of_ble_eq_true rfl⟩ (Nat.le_of_ble_eq_true rfl) dL_law_575 (fun v1 g1 => ?_)
  refine z_aload_n F 2 rfl rfl dL_law_578 ?_
  refine k_X10_go (κ := zkl sz) F (by rw [hR]; exact ⟨by decide, by decide⟩) q_1231 (t_law_M sz) ⟨by rw [hR]; exact Nat.le_of_ble_eq_true rfl, by rw [hR]; exact Nat.le_of_ble_eq_true rfl⟩ (Nat.le_of_ble_eq_true rfl) dL_law_579 (fun v2 g2 => ?_)
  unfold zcont
  refine z_icmp_eq (tgt := 1045) F dL_law_582 (by decide) (fun c1 => ?_) (fun c1 => ?_)
  · refine z_iinc (v := l3 + 4) (lv' := [(3, .int (l3 + 4)), (0, .ref b), (1, .ref sz), (2, .ref (sz + 53))]) F 3 rfl (congrArg (l3 + ·) (by decide)) (by decide) dL_law_1045 rfl ?_
    refine z_goto (tgt := 18) F dL_law_1048 (by decide) ?_
    refine z_sub (lv' := [(0, .ref b), (1, .ref sz), (2, .ref (sz + 53)), (3, .int (l3 + 4))]) [1, 2, 3, 0] rfl ?_
    exact z_back (fun h => h)
  · exact z_no (fun h => absurd (show (0 : Int32) = 1 from h) (by decide))
def lc_15 (L : Nat) (xs : Nat → Int32) (sz : Nat) (l3 : Int32) (g : zG) : Option zlR :=
  zc (zin (l3 + 1) L) (zb (f_X9_struck sz (xs (l3 + 1).toNatClampNeg) g) (fun v1 g1 => zc (zin (l3 + 1) L) (zb (f_X10_struck (sz + 53) (xs (l3 + 1).toNatClampNeg) g1) (fun v2 g2 => zcont l3 v1 v2 g2))))
set_option maxRecDepth 100000 in
set_option maxHeartbeats 4000000 in
theorem ltc_15 {E : zE} {D : zD} {A : Nat → Prop} {Q : State → Prop} {b L sz : Nat} {xs : Nat → Int32} (F : zF E D A cL_law "TypeChainLaw" 4 (some .boolean)) (hR : E.2.2.2.1 = room_1) (hX : va_X b L xs E.2.2.2.2.1 E.2.2.2.2.1.heap) (hbl : b < E.2.2.2.2.1.heap.size) (hbA : ¬ A b) (l3 : Int32) (g : zG) : zSim (zKl (fun s : Int32 × zG => zAt E D A Q 4 (zkl sz) s.2 18 [(0, .ref b), (1, .ref sz), (2, .ref (sz + 53)), (3, .int s.1)] []) (fun q : Int32 × zG => q.1 = 1)) (lc_15 L xs sz l3 g) (zAt E D A Q 4 (zkl sz) g 587 [(0, .ref b), (1, .ref sz), (2, .ref (sz + 53)), (3, .int l3)] []) := by
  unfold lc_15
  refine z_aload_n F 1 rfl rfl dL_law_587 ?_
  refine z_aload_n F 0 rfl rfl dL_law_588 ?_
  refine z_iload_n F 3 rfl rfl dL_law_589 ?_
  refine z_iconst (v := 1) F (by decide) dL_law_590 ?_
  refine z_iadd F dL_law_591 ?_
  refine z_sld F hX hbl hbA dL_law_592 ?_
  refine k_X9_struck (κ := zkl sz) F (by rw [hR]; exact ⟨by decide, by decide⟩) q_685 (t_law_X sz) ⟨by rw [hR]; exact Nat.le_of_ble_eq_true rfl, by rw [hR]; exact Nat.le_of_ble_eq_true rfl⟩ (Nat.le_of_ble_eq_true rfl) dL_law_593 (fun v1 g1 => ?_)
  refine z_aload_n F 2 rfl rfl dL_law_596 ?_
  refine z_aload_n F 0 rfl rfl dL_law_597 ?_
  refine z_iload_n F 3 rfl rfl dL_law_598 ?_
  refine z_iconst (v := 1) F (by decide) dL_law_599 ?_
  refine z_iadd F dL_law_600 ?_
  refine z_sld F hX hbl hbA dL_law_601 ?_
  refine k_X10_struck (κ := zkl sz) F (by rw [hR]; exact ⟨by decide, by decide⟩) q_1239 (t_law_M sz) ⟨by rw [hR]; exact Nat.le_of_ble_eq_true rfl, by rw [hR]; exact Nat.le_of_ble_eq_true rfl⟩ (Nat.le_of_ble_eq_true rfl) dL_law_602 (fun v2 g2 => ?_)
  unfold zcont
  refine z_icmp_eq (tgt := 1045) F dL_law_605 (by decide) (fun c1 => ?_) (fun c1 => ?_)
  · refine z_iinc (v := l3 + 4) (lv' := [(3, .int (l3 + 4)), (0, .ref b), (1, .ref sz), (2, .ref (sz + 53))]) F 3 rfl (congrArg (l3 + ·) (by decide)) (by decide) dL_law_1045 rfl ?_
    refine z_goto (tgt := 18) F dL_law_1048 (by decide) ?_
    refine z_sub (lv' := [(0, .ref b), (1, .ref sz), (2, .ref (sz + 53)), (3, .int (l3 + 4))]) [1, 2, 3, 0] rfl ?_
    exact z_back (fun h => h)
  · exact z_no (fun h => absurd (show (0 : Int32) = 1 from h) (by decide))
def lc_16 (L : Nat) (xs : Nat → Int32) (sz : Nat) (l3 : Int32) (g : zG) : Option zlR :=
  zc (zin (l3 + 1) L) (zc (zin (l3 + 2) L) (zb (f_X9_slipped sz (xs (l3 + 1).toNatClampNeg) (xs (l3 + 2).toNatClampNeg) g) (fun v1 g1 => zc (zin (l3 + 1) L) (zc (zin (l3 + 2) L) (zb (f_X10_slipped (sz + 53) (xs (l3 + 1).toNatClampNeg) (xs (l3 + 2).toNatClampNeg) g1) (fun v2 g2 => zcont l3 v1 v2 g2))))))
set_option maxRecDepth 100000 in
set_option maxHeartbeats 4000000 in
theorem ltc_16 {E : zE} {D : zD} {A : Nat → Prop} {Q : State → Prop} {b L sz : Nat} {xs : Nat → Int32} (F : zF E D A cL_law "TypeChainLaw" 4 (some .boolean)) (hR : E.2.2.2.1 = room_1) (hX : va_X b L xs E.2.2.2.2.1 E.2.2.2.2.1.heap) (hbl : b < E.2.2.2.2.1.heap.size) (hbA : ¬ A b) (l3 : Int32) (g : zG) : zSim (zKl (fun s : Int32 × zG => zAt E D A Q 4 (zkl sz) s.2 18 [(0, .ref b), (1, .ref sz), (2, .ref (sz + 53)), (3, .int s.1)] []) (fun q : Int32 × zG => q.1 = 1)) (lc_16 L xs sz l3 g) (zAt E D A Q 4 (zkl sz) g 610 [(0, .ref b), (1, .ref sz), (2, .ref (sz + 53)), (3, .int l3)] []) := by
  unfold lc_16
  refine z_aload_n F 1 rfl rfl dL_law_610 ?_
  refine z_aload_n F 0 rfl rfl dL_law_611 ?_
  refine z_iload_n F 3 rfl rfl dL_law_612 ?_
  refine z_iconst (v := 1) F (by decide) dL_law_613 ?_
  refine z_iadd F dL_law_614 ?_
  refine z_sld F hX hbl hbA dL_law_615 ?_
  refine z_aload_n F 0 rfl rfl dL_law_616 ?_
  refine z_iload_n F 3 rfl rfl dL_law_617 ?_
  refine z_iconst (v := 2) F (by decide) dL_law_618 ?_
  refine z_iadd F dL_law_619 ?_
  refine z_sld F hX hbl hbA dL_law_620 ?_
  refine k_X9_slipped (κ := zkl sz) F (by rw [hR]; exact ⟨by decide, by decide⟩) q_695 (t_law_X sz) ⟨by rw [hR]; exact Nat.le_of_ble_eq_true rfl, by rw [hR]; exact Nat.le_of_ble_eq_true rfl⟩ (Nat.le_of_ble_eq_true rfl) dL_law_621 (fun v1 g1 => ?_)
  refine z_aload_n F 2 rfl rfl dL_law_624 ?_
  refine z_aload_n F 0 rfl rfl dL_law_625 ?_
  refine z_iload_n F 3 rfl rfl dL_law_626 ?_
  refine z_iconst (v := 1) F (by decide) dL_law_627 ?_
  refine z_iadd F dL_law_628 ?_
  refine z_sld F hX hbl hbA dL_law_629 ?_
  refine z_aload_n F 0 rfl rfl dL_law_630 ?_
  refine z_iload_n F 3 rfl rfl dL_law_631 ?_
  refine z_iconst (v := 2) F (by decide) dL_law_632 ?_
  refine z_iadd F dL_law_633 ?_
  refine z_sld F hX hbl hbA dL_law_634 ?_
  refine k_X10_slipped (κ := zkl sz) F (by rw [hR]; exact ⟨by decide, by decide⟩) q_1243 (t_law_M sz) ⟨by rw [hR]; exact Nat.le_of_ble_eq_true rfl, by rw [hR]; exact Nat.le_of_ble_eq_true rfl⟩ (Nat.le_of_ble_eq_true rfl) dL_law_635 (fun v2 g2 => ?_)
  unfold zcont
  refine z_icmp_eq (tgt := 1045) F dL_law_638 (by decide) (fun c1 => ?_) (fun c1 => ?_)
  · refine z_iinc (v := l3 + 4) (lv' := [(3, .int (l3 + 4)), (0, .ref b), (1, .ref sz), (2, .ref (sz + 53))]) F 3 rfl (congrArg (l3 + ·) (by decide)) (by decide) dL_law_1045 rfl ?_
    refine z_goto (tgt := 18) F dL_law_1048 (by decide) ?_
    refine z_sub (lv' := [(0, .ref b), (1, .ref sz), (2, .ref (sz + 53)), (3, .int (l3 + 4))]) [1, 2, 3, 0] rfl ?_
    exact z_back (fun h => h)
  · exact z_no (fun h => absurd (show (0 : Int32) = 1 from h) (by decide))
def lc_17 (L : Nat) (xs : Nat → Int32) (sz : Nat) (l3 : Int32) (g : zG) : Option zlR :=
  zc (zin (l3 + 1) L) (zc (zin (l3 + 2) L) (zb (f_X9_seen sz (xs (l3 + 1).toNatClampNeg) (xs (l3 + 2).toNatClampNeg) g) (fun v1 g1 => zc (zin (l3 + 1) L) (zc (zin (l3 + 2) L) (zb (f_X10_seen (sz + 53) (xs (l3 + 1).toNatClampNeg) (xs (l3 + 2).toNatClampNeg) g1) (fun v2 g2 => zcont l3 v1 v2 g2))))))
set_option maxRecDepth 100000 in
set_option maxHeartbeats 4000000 in
theorem ltc_17 {E : zE} {D : zD} {A : Nat → Prop} {Q : State → Prop} {b L sz : Nat} {xs : Nat → Int32} (F : zF E D A cL_law "TypeChainLaw" 4 (some .boolean)) (hR : E.2.2.2.1 = room_1) (hX : va_X b L xs E.2.2.2.2.1 E.2.2.2.2.1.heap) (hbl : b < E.2.2.2.2.1.heap.size) (hbA : ¬ A b) (l3 : Int32) (g : zG) : zSim (zKl (fun s : Int32 × zG => zAt E D A Q 4 (zkl sz) s.2 18 [(0, .ref b), (1, .ref sz), (2, .ref (sz + 53)), (3, .int s.1)] []) (fun q : Int32 × zG => q.1 = 1)) (lc_17 L xs sz l3 g) (zAt E D A Q 4 (zkl sz) g 643 [(0, .ref b), (1, .ref sz), (2, .ref (sz + 53)), (3, .int l3)] []) := by
  unfold lc_17
  refine z_aload_n F 1 rfl rfl dL_law_643 ?_
  refine z_aload_n F 0 rfl rfl dL_law_644 ?_
  refine z_iload_n F 3 rfl rfl dL_law_645 ?_
  refine z_iconst (v := 1) F (by decide) dL_law_646 ?_
  refine z_iadd F dL_law_647 ?_
  refine z_sld F hX hbl hbA dL_law_648 ?_
  refine z_aload_n F 0 rfl rfl dL_law_649 ?_
  refine z_iload_n F 3 rfl rfl dL_law_650 ?_
  refine z_iconst (v := 2) F (by decide) dL_law_651 ?_
  refine z_iadd F dL_law_652 ?_
  refine z_sld F hX hbl hbA dL_law_653 ?_
  refine k_X9_seen (κ := zkl sz) F (by rw [hR]; exact ⟨by decide, by decide⟩) q_704 (t_law_X sz) ⟨by rw [hR]; exact Nat.le_of_ble_eq_true rfl, by rw [hR]; exact Nat.le_of_ble_eq_true rfl⟩ (Nat.le_of_ble_eq_true rfl) dL_law_654 (fun v1 g1 => ?_)
  refine z_aload_n F 2 rfl rfl dL_law_657 ?_
  refine z_aload_n F 0 rfl rfl dL_law_658 ?_
  refine z_iload_n F 3 rfl rfl dL_law_659 ?_
  refine z_iconst (v := 1) F (by decide) dL_law_660 ?_
  refine z_iadd F dL_law_661 ?_
  refine z_sld F hX hbl hbA dL_law_662 ?_
  refine z_aload_n F 0 rfl rfl dL_law_663 ?_
  refine z_iload_n F 3 rfl rfl dL_law_664 ?_
  refine z_iconst (v := 2) F (by decide) dL_law_665 ?_
  refine z_iadd F dL_law_666 ?_
  refine z_sld F hX hbl hbA dL_law_667 ?_
  refine k_X10_seen (κ := zkl sz) F (by rw [hR]; exact ⟨by decide, by decide⟩) q_1251 (t_law_M sz) ⟨by rw [hR]; exact Nat.le_of_ble_eq_true rfl, by rw [hR]; exact Nat.le_of_ble_eq_true rfl⟩ (Nat.le_of_ble_eq_true rfl) dL_law_668 (fun v2 g2 => ?_)
  unfold zcont
  refine z_icmp_eq (tgt := 1045) F dL_law_671 (by decide) (fun c1 => ?_) (fun c1 => ?_)
  · refine z_iinc (v := l3 + 4) (lv' := [(3, .int (l3 + 4)), (0, .ref b), (1, .ref sz), (2, .ref (sz + 53))]) F 3 rfl (congrArg (l3 + ·) (by decide)) (by decide) dL_law_1045 rfl ?_
    refine z_goto (tgt := 18) F dL_law_1048 (by decide) ?_
    refine z_sub (lv' := [(0, .ref b), (1, .ref sz), (2, .ref (sz + 53)), (3, .int (l3 + 4))]) [1, 2, 3, 0] rfl ?_
    exact z_back (fun h => h)
  · exact z_no (fun h => absurd (show (0 : Int32) = 1 from h) (by decide))
def lc_18 (L : Nat) (xs : Nat → Int32) (sz : Nat) (l3 : Int32) (g : zG) : Option zlR :=
  zc (zin (l3 + 1) L) (zb (f_X9_slips sz (xs (l3 + 1).toNatClampNeg) g) (fun v1 g1 => zc (zin (l3 + 1) L) (zb (f_X10_slips (sz + 53) (xs (l3 + 1).toNatClampNeg) g1) (fun v2 g2 => zcont l3 v1 v2 g2))))
set_option maxRecDepth 100000 in
set_option maxHeartbeats 4000000 in
theorem ltc_18 {E : zE} {D : zD} {A : Nat → Prop} {Q : State → Prop} {b L sz : Nat} {xs : Nat → Int32} (F : zF E D A cL_law "TypeChainLaw" 4 (some .boolean)) (hR : E.2.2.2.1 = room_1) (hX : va_X b L xs E.2.2.2.2.1 E.2.2.2.2.1.heap) (hbl : b < E.2.2.2.2.1.heap.size) (hbA : ¬ A b) (l3 : Int32) (g : zG) : zSim (zKl (fun s : Int32 × zG => zAt E D A Q 4 (zkl sz) s.2 18 [(0, .ref b), (1, .ref sz), (2, .ref (sz + 53)), (3, .int s.1)] []) (fun q : Int32 × zG => q.1 = 1)) (lc_18 L xs sz l3 g) (zAt E D A Q 4 (zkl sz) g 676 [(0, .ref b), (1, .ref sz), (2, .ref (sz + 53)), (3, .int l3)] []) := by
  unfold lc_18
  refine z_aload_n F 1 rfl rfl dL_law_676 ?_
  refine z_aload_n F 0 rfl rfl dL_law_677 ?_
  refine z_iload_n F 3 rfl rfl dL_law_678 ?_
  refine z_iconst (v := 1) F (by decide) dL_law_679 ?_
  refine z_iadd F dL_law_680 ?_
  refine z_sld F hX hbl hbA dL_law_681 ?_
  refine k_X9_slips (κ := zkl sz) F (by rw [hR]; exact ⟨by decide, by decide⟩) q_708 (t_law_X sz) ⟨by rw [hR]; exact Nat.le_of_ble_eq_true rfl, by rw [hR]; exact Nat.le_of_ble_eq_true rfl⟩ (Nat.le_of_ble_eq_true rfl) dL_law_682 (fun v1 g1 => ?_)
  refine z_aload_n F 2 rfl rfl dL_law_685 ?_
  refine z_aload_n F 0 rfl rfl dL_law_686 ?_
  refine z_iload_n F 3 rfl rfl dL_law_687 ?_
  refine z_iconst (v := 1) F (by decide) dL_law_688 ?_
  refine z_iadd F dL_law_689 ?_
  refine z_sld F hX hbl hbA dL_law_690 ?_
  refine k_X10_slips (κ := zkl sz) F (by rw [hR]; exact ⟨by decide, by decide⟩) q_1255 (t_law_M sz) ⟨by rw [hR]; exact Nat.le_of_ble_eq_true rfl, by rw [hR]; exact Nat.le_of_ble_eq_true rfl⟩ (Nat.le_of_ble_eq_true rfl) dL_law_691 (fun v2 g2 => ?_)
  unfold zcont
  refine z_icmp_eq (tgt := 1045) F dL_law_694 (by decide) (fun c1 => ?_) (fun c1 => ?_)
  · refine z_iinc (v := l3 + 4) (lv' := [(3, .int (l3 + 4)), (0, .ref b), (1, .ref sz), (2, .ref (sz + 53))]) F 3 rfl (congrArg (l3 + ·) (by decide)) (by decide) dL_law_1045 rfl ?_
    refine z_goto (tgt := 18) F dL_law_1048 (by decide) ?_
    refine z_sub (lv' := [(0, .ref b), (1, .ref sz), (2, .ref (sz + 53)), (3, .int (l3 + 4))]) [1, 2, 3, 0] rfl ?_
    exact z_back (fun h => h)
  · exact z_no (fun h => absurd (show (0 : Int32) = 1 from h) (by decide))
def lc_19 (L : Nat) (xs : Nat → Int32) (sz : Nat) (l3 : Int32) (g : zG) : Option zlR :=
  zc (zin (l3 + 1) L) (zb (f_X9_space sz (xs (l3 + 1).toNatClampNeg) g) (fun v1 g1 => zc (zin (l3 + 1) L) (zb (f_X10_space (sz + 53) (xs (l3 + 1).toNatClampNeg) g1) (fun v2 g2 => zcont l3 v1 v2 g2))))
set_option maxRecDepth 100000 in
set_option maxHeartbeats 4000000 in
theorem ltc_19 {E : zE} {D : zD} {A : Nat → Prop} {Q : State → Prop} {b L sz : Nat} {xs : Nat → Int32} (F : zF E D A cL_law "TypeChainLaw" 4 (some .boolean)) (hR : E.2.2.2.1 = room_1) (hX : va_X b L xs E.2.2.2.2.1 E.2.2.2.2.1.heap) (hbl : b < E.2.2.2.2.1.heap.size) (hbA : ¬ A b) (l3 : Int32) (g : zG) : zSim (zKl (fun s : Int32 × zG => zAt E D A Q 4 (zkl sz) s.2 18 [(0, .ref b), (1, .ref sz), (2, .ref (sz + 53)), (3, .int s.1)] []) (fun q : Int32 × zG => q.1 = 1)) (lc_19 L xs sz l3 g) (zAt E D A Q 4 (zkl sz) g 699 [(0, .ref b), (1, .ref sz), (2, .ref (sz + 53)), (3, .int l3)] []) := by
  unfold lc_19
  refine z_aload_n F 1 rfl rfl dL_law_699 ?_
  refine z_aload_n F 0 rfl rfl dL_law_700 ?_
  refine z_iload_n F 3 rfl rfl dL_law_701 ?_
  refine z_iconst (v := 1) F (by decide) dL_law_702 ?_
  refine z_iadd F dL_law_703 ?_
  refine z_sld F hX hbl hbA dL_law_704 ?_
  refine k_X9_space (κ := zkl sz) F (by rw [hR]; exact ⟨by decide, by decide⟩) q_717 (t_law_X sz) ⟨by rw [hR]; exact Nat.le_of_ble_eq_true rfl, by rw [hR]; exact Nat.le_of_ble_eq_true rfl⟩ (Nat.le_of_ble_eq_true rfl) dL_law_705 (fun v1 g1 => ?_)
  refine z_aload_n F 2 rfl rfl dL_law_708 ?_
  refine z_aload_n F 0 rfl rfl dL_law_709 ?_
  refine z_iload_n F 3 rfl rfl dL_law_710 ?_
  refine z_iconst (v := 1) F (by decide) dL_law_711 ?_
  refine z_iadd F dL_law_712 ?_
  refine z_sld F hX hbl hbA dL_law_713 ?_
  refine k_X10_space (κ := zkl sz) F (by rw [hR]; exact ⟨by decide, by decide⟩) q_1259 (t_law_M sz) ⟨by rw [hR]; exact Nat.le_of_ble_eq_true rfl, by rw [hR]; exact Nat.le_of_ble_eq_true rfl⟩ (Nat.le_of_ble_eq_true rfl) dL_law_714 (fun v2 g2 => ?_)
  unfold zcont
  refine z_icmp_eq (tgt := 1045) F dL_law_717 (by decide) (fun c1 => ?_) (fun c1 => ?_)
  · refine z_iinc (v := l3 + 4) (lv' := [(3, .int (l3 + 4)), (0, .ref b), (1, .ref sz), (2, .ref (sz + 53))]) F 3 rfl (congrArg (l3 + ·) (by decide)) (by decide) dL_law_1045 rfl ?_
    refine z_goto (tgt := 18) F dL_law_1048 (by decide) ?_
    refine z_sub (lv' := [(0, .ref b), (1, .ref sz), (2, .ref (sz + 53)), (3, .int (l3 + 4))]) [1, 2, 3, 0] rfl ?_
    exact z_back (fun h => h)
  · exact z_no (fun h => absurd (show (0 : Int32) = 1 from h) (by decide))
def lc_20 (L : Nat) (xs : Nat → Int32) (sz : Nat) (l3 : Int32) (g : zG) : Option zlR :=
  zc (zin (l3 + 1) L) (zb (f_X9_skip sz (xs (l3 + 1).toNatClampNeg) g) (fun v1 g1 => zc (zin (l3 + 1) L) (zb (f_X10_skip (sz + 53) (xs (l3 + 1).toNatClampNeg) g1) (fun v2 g2 => zcont l3 v1 v2 g2))))
set_option maxRecDepth 100000 in
set_option maxHeartbeats 4000000 in
theorem ltc_20 {E : zE} {D : zD} {A : Nat → Prop} {Q : State → Prop} {b L sz : Nat} {xs : Nat → Int32} (F : zF E D A cL_law "TypeChainLaw" 4 (some .boolean)) (hR : E.2.2.2.1 = room_1) (hX : va_X b L xs E.2.2.2.2.1 E.2.2.2.2.1.heap) (hbl : b < E.2.2.2.2.1.heap.size) (hbA : ¬ A b) (l3 : Int32) (g : zG) : zSim (zKl (fun s : Int32 × zG => zAt E D A Q 4 (zkl sz) s.2 18 [(0, .ref b), (1, .ref sz), (2, .ref (sz + 53)), (3, .int s.1)] []) (fun q : Int32 × zG => q.1 = 1)) (lc_20 L xs sz l3 g) (zAt E D A Q 4 (zkl sz) g 722 [(0, .ref b), (1, .ref sz), (2, .ref (sz + 53)), (3, .int l3)] []) := by
  unfold lc_20
  refine z_aload_n F 1 rfl rfl dL_law_722 ?_
  refine z_aload_n F 0 rfl rfl dL_law_723 ?_
  refine z_iload_n F 3 rfl rfl dL_law_724 ?_
  refine z_iconst (v := 1) F (by decide) dL_law_725 ?_
  refine z_iadd F dL_law_726 ?_
  refine z_sld F hX hbl hbA dL_law_727 ?_
  refine k_X9_skip (κ := zkl sz) F (by rw [hR]; exact ⟨by decide, by decide⟩) q_725 (t_law_X sz) ⟨by rw [hR]; exact Nat.le_of_ble_eq_true rfl, by rw [hR]; exact Nat.le_of_ble_eq_true rfl⟩ (Nat.le_of_ble_eq_true rfl) dL_law_728 (fun v1 g1 => ?_)
  refine z_aload_n F 2 rfl rfl dL_law_731 ?_
  refine z_aload_n F 0 rfl rfl dL_law_732 ?_
  refine z_iload_n F 3 rfl rfl dL_law_733 ?_
  refine z_iconst (v := 1) F (by decide) dL_law_734 ?_
  refine z_iadd F dL_law_735 ?_
  refine z_sld F hX hbl hbA dL_law_736 ?_
  refine k_X10_skip (κ := zkl sz) F (by rw [hR]; exact ⟨by decide, by decide⟩) q_1268 (t_law_M sz) ⟨by rw [hR]; exact Nat.le_of_ble_eq_true rfl, by rw [hR]; exact Nat.le_of_ble_eq_true rfl⟩ (Nat.le_of_ble_eq_true rfl) dL_law_737 (fun v2 g2 => ?_)
  unfold zcont
  refine z_icmp_eq (tgt := 1045) F dL_law_740 (by decide) (fun c1 => ?_) (fun c1 => ?_)
  · refine z_iinc (v := l3 + 4) (lv' := [(3, .int (l3 + 4)), (0, .ref b), (1, .ref sz), (2, .ref (sz + 53))]) F 3 rfl (congrArg (l3 + ·) (by decide)) (by decide) dL_law_1045 rfl ?_
    refine z_goto (tgt := 18) F dL_law_1048 (by decide) ?_
    refine z_sub (lv' := [(0, .ref b), (1, .ref sz), (2, .ref (sz + 53)), (3, .int (l3 + 4))]) [1, 2, 3, 0] rfl ?_
    exact z_back (fun h => h)
  · exact z_no (fun h => absurd (show (0 : Int32) = 1 from h) (by decide))
def lc_21 (L : Nat) (xs : Nat → Int32) (sz : Nat) (l3 : Int32) (g : zG) : Option zlR :=
  zc (zin (l3 + 1) L) (zb (f_X9_now sz (xs (l3 + 1).toNatClampNeg) g) (fun v1 g1 => zc (zin (l3 + 1) L) (zb (f_X10_now (sz + 53) (xs (l3 + 1).toNatClampNeg) g1) (fun v2 g2 => zcont l3 v1 v2 g2))))
set_option maxRecDepth 100000 in
set_option maxHeartbeats 4000000 in
theorem ltc_21 {E : zE} {D : zD} {A : Nat → Prop} {Q : State → Prop} {b L sz : Nat} {xs : Nat → Int32} (F : zF E D A cL_law "TypeChainLaw" 4 (some .boolean)) (hR : E.2.2.2.1 = room_1) (hX : va_X b L xs E.2.2.2.2.1 E.2.2.2.2.1.heap) (hbl : b < E.2.2.2.2.1.heap.size) (hbA : ¬ A b) (l3 : Int32) (g : zG) : zSim (zKl (fun s : Int32 × zG => zAt E D A Q 4 (zkl sz) s.2 18 [(0, .ref b), (1, .ref sz), (2, .ref (sz + 53)), (3, .int s.1)] []) (fun q : Int32 × zG => q.1 = 1)) (lc_21 L xs sz l3 g) (zAt E D A Q 4 (zkl sz) g 745 [(0, .ref b), (1, .ref sz), (2, .ref (sz + 53)), (3, .int l3)] []) := by
  unfold lc_21
  refine z_aload_n F 1 rfl rfl dL_law_745 ?_
  refine z_aload_n F 0 rfl rfl dL_law_746 ?_
  refine z_iload_n F 3 rfl rfl dL_law_747 ?_
  refine z_iconst (v := 1) F (by decide) dL_law_748 ?_
  refine z_iadd F dL_law_749 ?_
  refine z_sld F hX hbl hbA dL_law_750 ?_
  refine k_X9_now (κ := zkl sz) F (by rw [hR]; exact ⟨by decide, by decide⟩) q_738 (t_law_X sz) ⟨by rw [hR]; exact Nat.le_of_ble_eq_true rfl, by rw [hR]; exact Nat.le_of_ble_eq_true rfl⟩ (Nat.le_of_ble_eq_true rfl) dL_law_751 (fun v1 g1 => ?_)
  refine z_aload_n F 2 rfl rfl dL_law_754 ?_
  refine z_aload_n F 0 rfl rfl dL_law_755 ?_
  refine z_iload_n F 3 rfl rfl dL_law_756 ?_
  refine z_iconst (v := 1) F (by decide) dL_law_757 ?_
  refine z_iadd F dL_law_758 ?_
  refine z_sld F hX hbl hbA dL_law_759 ?_
  refine k_X10_now (κ := zkl sz) F (by rw [hR]; exact ⟨by decide, by decide⟩) q_1277 (t_law_M sz) ⟨by rw [hR]; exact Nat.le_of_ble_eq_true rfl, by rw [hR]; exact Nat.le_of_ble_eq_true rfl⟩ (Nat.le_of_ble_eq_true rfl) dL_law_760 (fun v2 g2 => ?_)
  unfold zcont
  refine z_icmp_eq (tgt := 1045) F dL_law_763 (by decide) (fun c1 => ?_) (fun c1 => ?_)
  · refine z_iinc (v := l3 + 4) (lv' := [(3, .int (l3 + 4)), (0, .ref b), (1, .ref sz), (2, .ref (sz + 53))]) F 3 rfl (congrArg (l3 + ·) (by decide)) (by decide) dL_law_1045 rfl ?_
    refine z_goto (tgt := 18) F dL_law_1048 (by decide) ?_
    refine z_sub (lv' := [(0, .ref b), (1, .ref sz), (2, .ref (sz + 53)), (3, .int (l3 + 4))]) [1, 2, 3, 0] rfl ?_
    exact z_back (fun h => h)
  · exact z_no (fun h => absurd (show (0 : Int32) = 1 from h) (by decide))
def lc_22 (L : Nat) (xs : Nat → Int32) (sz : Nat) (l3 : Int32) (g : zG) : Option zlR :=
  zc (zin (l3 + 1) L) (zc (zin (l3 + 2) L) (zc (zin (l3 + 3) L) (zb (f_X9_page sz (xs (l3 + 1).toNatClampNeg) (xs (l3 + 2).toNatClampNeg) (xs (l3 + 3).toNatClampNeg) g) (fun v1 g1 => zc (zin (l3 + 1) L) (zc (zin (l3 + 2) L) (zc (zin (l3 + 3) L) (zb (f_X10_page (sz + 53) (xs (l3 + 1).toNatClampNeg) (xs (l3 + 2).toNatClampNeg) (xs (l3 + 3).toNatClampNeg) g1) (fun v2 g2 => zcont l3 v1 v2 g2))))))))
set_option maxRecDepth 100000 in
set_option maxHeartbeats 4000000 in
theorem ltc_22 {E : zE} {D : zD} {A : Nat → Prop} {Q : State → Prop} {b L sz : Nat} {xs : Nat → Int32} (F : zF E D A cL_law "TypeChainLaw" 4 (some .boolean)) (hR : E.2.2.2.1 = room_1) (hX : va_X b L xs E.2.2.2.2.1 E.2.2.2.2.1.heap) (hbl : b < E.2.2.2.2.1.heap.size) (hbA : ¬ A b) (l3 : Int32) (g : zG) : zSim (zKl (fun s : Int32 × zG => zAt E D A Q 4 (zkl sz) s.2 18 [(0, .ref b), (1, .ref sz), (2, .ref (sz + 53)), (3, .int s.1)] []) (fun q : Int32 × zG => q.1 = 1)) (lc_22 L xs sz l3 g) (zAt E D A Q 4 (zkl sz) g 768 [(0, .ref b), (1, .ref sz), (2, .ref (sz + 53)), (3, .int l3)] []) := by
  unfold lc_22
  refine z_aload_n F 1 rfl rfl dL_law_768 ?_
  refine z_aload_n F 0 rfl rfl dL_law_769 ?_
  refine z_iload_n F 3 rfl rfl dL_law_770 ?_
  refine z_iconst (v := 1) F (by decide) dL_law_771 ?_
  refine z_iadd F dL_law_772 ?_
  refine z_sld F hX hbl hbA dL_law_773 ?_
  refine z_aload_n F 0 rfl rfl dL_law_774 ?_
  refine z_iload_n F 3 rfl rfl dL_law_775 ?_
  refine z_iconst (v := 2) F (by decide) dL_law_776 ?_
  refine z_iadd F dL_law_777 ?_
  refine z_sld F hX hbl hbA dL_law_778 ?_
  refine z_aload_n F 0 rfl rfl dL_law_779 ?_
  refine z_iload_n F 3 rfl rfl dL_law_780 ?_
  refine z_iconst (v := 3) F (by decide) dL_law_781 ?_
  refine z_iadd F dL_law_782 ?_
  refine z_sld F hX hbl hbA dL_law_783 ?_
  refine k_X9_page (κ := zkl sz) F (by rw [hR]; exact ⟨by decide, by decide⟩) q_746 (t_law_X sz) ⟨by rw [hR]; exact Nat.le_of_ble_eq_true rfl, by rw [hR]; exact Nat.le_of_ble_eq_true rfl⟩ (Nat.le_of_ble_eq_true rfl) dL_law_784 (fun v1 g1 => ?_)
  refine z_aload_n F 2 rfl rfl dL_law_787 ?_
  refine z_aload_n F 0 rfl rfl dL_law_788 ?_
  refine z_iload_n F 3 rfl rfl dL_law_789 ?_
  refine z_iconst (v := 1) F (by decide) dL_law_790 ?_
  refine z_iadd F dL_law_791 ?_
  refine z_sld F hX hbl hbA dL_law_792 ?_
  refine z_aload_n F 0 rfl rfl dL_law_793 ?_
  refine z_iload_n F 3 rfl rfl dL_law_794 ?_
  refine z_iconst (v := 2) F (by decide) dL_law_795 ?_
  refine z_iadd F dL_law_796 ?_
  refine z_sld F hX hbl hbA dL_law_797 ?_
  refine z_aload_n F 0 rfl rfl dL_law_798 ?_
  refine z_iload_n F 3 rfl rfl dL_law_799 ?_
  refine z_iconst (v := 3) F (by decide) dL_law_800 ?_
  refine z_iadd F dL_law_801 ?_
  refine z_sld F hX hbl hbA dL_law_802 ?_
  refine k_X10_page (κ := zkl sz) F (by rw [hR]; exact ⟨by decide, by decide⟩) q_1281 (t_law_M sz) ⟨by rw [hR]; exact Nat.le_of_ble_eq_true rfl, by rw [hR]; exact Nat.le_of_ble_eq_true rfl⟩ (Nat.le_of_ble_eq_true rfl) dL_law_803 (fun v2 g2 => ?_)
  unfold zcont
  refine z_icmp_eq (tgt := 1045) F dL_law_806 (by decide) (fun c1 => ?_) (fun c1 => ?_)
  · refine z_iinc (v := l3 + 4) (lv' := [(3, .int (l3 + 4)), (0, .ref b), (1, .ref sz), (2, .ref (sz + 53))]) F 3 rfl (congrArg (l3 + ·) (by decide)) (by decide) dL_law_1045 rfl ?_
    refine z_goto (tgt := 18) F dL_law_1048 (by decide) ?_
    refine z_sub (lv' := [(0, .ref b), (1, .ref sz), (2, .ref (sz + 53)), (3, .int (l3 + 4))]) [1, 2, 3, 0] rfl ?_
    exact z_back (fun h => h)
  · exact z_no (fun h => absurd (show (0 : Int32) = 1 from h) (by decide))
def lc_23 (L : Nat) (xs : Nat → Int32) (sz : Nat) (l3 : Int32) (g : zG) : Option zlR :=
  zb (f_X9_run sz g) (fun v1 g1 => zb (f_X10_run (sz + 53) g1) (fun v2 g2 => zcont l3 v1 v2 g2))
set_option maxRecDepth 100000 in
set_option maxHeartbeats 4000000 in
theorem ltc_23 {E : zE} {D : zD} {A : Nat → Prop} {Q : State → Prop} {b L sz : Nat} {xs : Nat → Int32} (F : zF E D A cL_law "TypeChainLaw" 4 (some .boolean)) (hR : E.2.2.2.1 = room_1) (hX : va_X b L xs E.2.2.2.2.1 E.2.2.2.2.1.heap) (hbl : b < E.2.2.2.2.1.heap.size) (hbA : ¬ A b) (l3 : Int32) (g : zG) : zSim (zKl (fun s : Int32 × zG => zAt E D A Q 4 (zkl sz) s.2 18 [(0, .ref b), (1, .ref sz), (2, .ref (sz + 53)), (3, .int s.1)] []) (fun q : Int32 × zG => q.1 = 1)) (lc_23 L xs sz l3 g) (zAt E D A Q 4 (zkl sz) g 811 [(0, .ref b), (1, .ref sz), (2, .ref (sz + 53)), (3, .int l3)] []) := by
  unfold lc_23
  refine z_aload_n F 1 rfl rfl dL_law_811 ?_
  refine k_X9_run (κ := zkl sz) F (by rw [hR]; exact ⟨by decide, by decide⟩) q_750 (t_law_X sz) ⟨by rw [hR]; exact Nat.le_of_ble_eq_true rfl, by rw [hR]; exact Nat.le_of_ble_eq_true rfl⟩ (Nat.le_of_ble_eq_true rfl) dL_law_812 (fun v1 g1 => ?_)
  refine z_aload_n F 2 rfl rfl dL_law_815 ?_
  refine k_X10_run (κ := zkl sz) F (by rw [hR]; exact ⟨by decide, by decide⟩) q_1285 (t_law_M sz) ⟨by rw [hR]; exact Nat.le_of_ble_eq_true rfl, by rw [hR]; exact Nat.le_of_ble_eq_true rfl⟩ (Nat.le_of_ble_eq_true rfl) dL_law_816 (fun v2 g2 => ?_)
  unfold zcont
  refine z_icmp_eq (tgt := 1045) F dL_law_819 (by decide) (fun c1 => ?_) (fun c1 => ?_)
  · refine z_iinc (v := l3 + 4) (lv' := [(3, .int (l3 + 4)), (0, .ref b), (1, .ref sz), (2, .ref (sz + 53))]) F 3 rfl (congrArg (l3 + ·) (by decide)) (by decide) dL_law_1045 rfl ?_
    refine z_goto (tgt := 18) F dL_law_1048 (by decide) ?_
    refine z_sub (lv' := [(0, .ref b), (1, .ref sz), (2, .ref (sz + 53)), (3, .int (l3 + 4))]) [1, 2, 3, 0] rfl ?_
    exact z_back (fun h => h)
  · exact z_no (fun h => absurd (show (0 : Int32) = 1 from h) (by decide))
def lc_24 (L : Nat) (xs : Nat → Int32) (sz : Nat) (l3 : Int32) (g : zG) : Option zlR :=
  zc (zin (l3 + 1) L) (zb (f_X9_ran sz (xs (l3 + 1).toNatClampNeg) g) (fun v1 g1 => zc (zin (l3 + 1) L) (zb (f_X10_ran (sz + 53) (xs (l3 + 1).toNatClampNeg) g1) (fun v2 g2 => zcont l3 v1 v2 g2))))
set_option maxRecDepth 100000 in
set_option maxHeartbeats 4000000 in
theorem ltc_24 {E : zE} {D : zD} {A : Nat → Prop} {Q : State → Prop} {b L sz : Nat} {xs : Nat → Int32} (F : zF E D A cL_law "TypeChainLaw" 4 (some .boolean)) (hR : E.2.2.2.1 = room_1) (hX : va_X b L xs E.2.2.2.2.1 E.2.2.2.2.1.heap) (hbl : b < E.2.2.2.2.1.heap.size) (hbA : ¬ A b) (l3 : Int32) (g : zG) : zSim (zKl (fun s : Int32 × zG => zAt E D A Q 4 (zkl sz) s.2 18 [(0, .ref b), (1, .ref sz), (2, .ref (sz + 53)), (3, .int s.1)] []) (fun q : Int32 × zG => q.1 = 1)) (lc_24 L xs sz l3 g) (zAt E D A Q 4 (zkl sz) g 824 [(0, .ref b), (1, .ref sz), (2, .ref (sz + 53)), (3, .int l3)] []) := by
  unfold lc_24
  refine z_aload_n F 1 rfl rfl dL_law_824 ?_
  refine z_aload_n F 0 rfl rfl dL_law_825 ?_
  refine z_iload_n F 3 rfl rfl dL_law_826 ?_
  refine z_iconst (v := 1) F (by decide) dL_law_827 ?_
  refine z_iadd F dL_law_828 ?_
  refine z_sld F hX hbl hbA dL_law_829 ?_
  refine k_X9_ran (κ := zkl sz) F (by rw [hR]; exact ⟨by decide, by decide⟩) q_766 (t_law_X sz) ⟨by rw [hR]; exact Nat.le_of_ble_eq_true rfl, by rw [hR]; exact Nat.le_of_ble_eq_true rfl⟩ (Nat.le_of_ble_eq_true rfl) dL_law_830 (fun v1 g1 => ?_)
  refine z_aload_n F 2 rfl rfl dL_law_833 ?_
  refine z_aload_n F 0 rfl rfl dL_law_834 ?_
  refine z_iload_n F 3 rfl rfl dL_law_835 ?_
  refine z_iconst (v := 1) F (by decide) dL_law_836 ?_
  refine z_iadd F dL_law_837 ?_
  refine z_sld F hX hbl hbA dL_law_838 ?_
  refine k_X10_ran (κ := zkl sz) F (by rw [hR]; exact ⟨by decide, by decide⟩) q_1297 (t_law_M sz) ⟨by rw [hR]; exact Nat.le_of_ble_eq_true rfl, by rw [hR]; exact Nat.le_of_ble_eq_true rfl⟩ (Nat.le_of_ble_eq_true rfl) dL_law_839 (fun v2 g2 => ?_)
  unfold zcont
  refine z_icmp_eq (tgt := 1045) F dL_law_842 (by decide) (fun c1 => ?_) (fun c1 => ?_)
  · refine z_iinc (v := l3 + 4) (lv' := [(3, .int (l3 + 4)), (0, .ref b), (1, .ref sz), (2, .ref (sz + 53))]) F 3 rfl (congrArg (l3 + ·) (by decide)) (by decide) dL_law_1045 rfl ?_
    refine z_goto (tgt := 18) F dL_law_1048 (by decide) ?_
    refine z_sub (lv' := [(0, .ref b), (1, .ref sz), (2, .ref (sz + 53)), (3, .int (l3 + 4))]) [1, 2, 3, 0] rfl ?_
    exact z_back (fun h => h)
  · exact z_no (fun h => absurd (show (0 : Int32) = 1 from h) (by decide))
def lc_25 (L : Nat) (xs : Nat → Int32) (sz : Nat) (l3 : Int32) (g : zG) : Option zlR :=
  zc (zin (l3 + 1) L) (zb (f_X9_best sz (xs (l3 + 1).toNatClampNeg) g) (fun v1 g1 => zc (zin (l3 + 1) L) (zb (f_X10_best (sz + 53) (xs (l3 + 1).toNatClampNeg) g1) (fun v2 g2 => zcont l3 v1 v2 g2))))
set_option maxRecDepth 100000 in
set_option maxHeartbeats 4000000 in
theorem ltc_25 {E : zE} {D : zD} {A : Nat → Prop} {Q : State → Prop} {b L sz : Nat} {xs : Nat → Int32} (F : zF E D A cL_law "TypeChainLaw" 4 (some .boolean)) (hR : E.2.2.2.1 = room_1) (hX : va_X b L xs E.2.2.2.2.1 E.2.2.2.2.1.heap) (hbl : b < E.2.2.2.2.1.heap.size) (hbA : ¬ A b) (l3 : Int32) (g : zG) : zSim (zKl (fun s : Int32 × zG => zAt E D A Q 4 (zkl sz) s.2 18 [(0, .ref b), (1, .ref sz), (2, .ref (sz + 53)), (3, .int s.1)] []) (fun q : Int32 × zG => q.1 = 1)) (lc_25 L xs sz l3 g) (zAt E D A Q 4 (zkl sz) g 847 [(0, .ref b), (1, .ref sz), (2, .ref (sz + 53)), (3, .int l3)] []) := by
  unfold lc_25
  refine z_aload_n F 1 rfl rfl dL_law_847 ?_
  refine z_aload_n F 0 rfl rfl dL_law_848 ?_
  refine z_iload_n F 3 rfl rfl dL_law_849 ?_
  refine z_iconst (v := 1) F (by decide) dL_law_850 ?_
  refine z_iadd F dL_law_851 ?_
  refine z_sld F hX hbl hbA dL_law_852 ?_
  refine k_X9_best (κ := zkl sz) F (by rw [hR]; exact ⟨by decide, by decide⟩) q_770 (t_law_X sz) ⟨by rw [hR]; exact Nat.le_of_ble_eq_true rfl, by rw [hR]; exact Nat.le_of_ble_eq_true rfl⟩ (Nat.le_of_ble_eq_true rfl) dL_law_853 (fun v1 g1 => ?_)
  refine z_aload_n F 2 rfl rfl dL_law_856 ?_
  refine z_aload_n F 0 rfl rfl dL_law_857 ?_
  refine z_iload_n F 3 rfl rfl dL_law_858 ?_
  refine z_iconst (v := 1) F (by decide) dL_law_859 ?_
  refine z_iadd F dL_law_860 ?_
  refine z_sld F hX hbl hbA dL_law_861 ?_
  refine k_X10_best (κ := zkl sz) F (by rw [hR]; exact ⟨by decide, by decide⟩) q_1301 (t_law_M sz) ⟨by rw [hR]; exact Nat.le_of_ble_eq_true rfl, by rw [hR]; exact Nat.le_of_ble_eq_true rfl⟩ (Nat.le_of_ble_eq_true rfl) dL_law_862 (fun v2 g2 => ?_)
  unfold zcont
  refine z_icmp_eq (tgt := 1045) F dL_law_865 (by decide) (fun c1 => ?_) (fun c1 => ?_)
  · refine z_iinc (v := l3 + 4) (lv' := [(3, .int (l3 + 4)), (0, .ref b), (1, .ref sz), (2, .ref (sz + 53))]) F 3 rfl (congrArg (l3 + ·) (by decide)) (by decide) dL_law_1045 rfl ?_
    refine z_goto (tgt := 18) F dL_law_1048 (by decide) ?_
    refine z_sub (lv' := [(0, .ref b), (1, .ref sz), (2, .ref (sz + 53)), (3, .int (l3 + 4))]) [1, 2, 3, 0] rfl ?_
    exact z_back (fun h => h)
  · exact z_no (fun h => absurd (show (0 : Int32) = 1 from h) (by decide))
def lc_26 (L : Nat) (xs : Nat → Int32) (sz : Nat) (l3 : Int32) (g : zG) : Option zlR :=
  zc (zin (l3 + 1) L) (zb (f_X9_twice sz (xs (l3 + 1).toNatClampNeg) g) (fun v1 g1 => zc (zin (l3 + 1) L) (zb (f_X10_twice (sz + 53) (xs (l3 + 1).toNatClampNeg) g1) (fun v2 g2 => zcont l3 v1 v2 g2))))
set_option maxRecDepth 100000 in
set_option maxHeartbeats 4000000 in
theorem ltc_26 {E : zE} {D : zD} {A : Nat → Prop} {Q : State → Prop} {b L sz : Nat} {xs : Nat → Int32} (F : zF E D A cL_law "TypeChainLaw" 4 (some .boolean)) (hR : E.2.2.2.1 = room_1) (hX : va_X b L xs E.2.2.2.2.1 E.2.2.2.2.1.heap) (hbl : b < E.2.2.2.2.1.heap.size) (hbA : ¬ A b) (l3 : Int32) (g : zG) : zSim (zKl (fun s : Int32 × zG => zAt E D A Q 4 (zkl sz) s.2 18 [(0, .ref b), (1, .ref sz), (2, .ref (sz + 53)), (3, .int s.1)] []) (fun q : Int32 × zG => q.1 = 1)) (lc_26 L xs sz l3 g) (zAt E D A Q 4 (zkl sz) g 870 [(0, .ref b), (1, .ref sz), (2, .ref (sz + 53)), (3, .int l3)] []) := by
  unfold lc_26
  refine z_aload_n F 1 rfl rfl dL_law_870 ?_
  refine z_aload_n F 0 rfl rfl dL_law_871 ?_
  refine z_iload_n F 3 rfl rfl dL_law_872 ?_
  refine z_iconst (v := 1) F (by decide) dL_law_873 ?_
  refine z_iadd F dL_law_874 ?_
  refine z_sld F hX hbl hbA dL_law_875 ?_
  refine k_X9_twice (κ := zkl sz) F (by rw [hR]; exact ⟨by decide, by decide⟩) q_806 (t_law_X sz) ⟨by rw [hR]; exact Nat.le_of_ble_eq_true rfl, by rw [hR]; exact Nat.le_of_ble_eq_true rfl⟩ (Nat.le_of_ble_eq_true rfl) dL_law_876 (fun v1 g1 => ?_)
  refine z_aload_n F 2 rfl rfl dL_law_879 ?_
  refine z_aload_n F 0 rfl rfl dL_law_880 ?_
  refine z_iload_n F 3 rfl rfl dL_law_881 ?_
  refine z_iconst (v := 1) F (by decide) dL_law_882 ?_
  refine z_iadd F dL_law_883 ?_
  refine z_sld F hX hbl hbA dL_law_884 ?_
  refine k_X10_twice (κ := zkl sz) F (by rw [hR]; exact ⟨by decide, by decide⟩) q_1327 (t_law_M sz) ⟨by rw [hR]; exact Nat.le_of_ble_eq_true rfl, by rw [hR]; exact Nat.le_of_ble_eq_true rfl⟩ (Nat.le_of_ble_eq_true rfl) dL_law_885 (fun v2 g2 => ?_)
  unfold zcont
  refine z_icmp_eq (tgt := 1045) F dL_law_888 (by decide) (fun c1 => ?_) (fun c1 => ?_)
  · refine z_iinc (v := l3 + 4) (lv' := [(3, .int (l3 + 4)), (0, .ref b), (1, .ref sz), (2, .ref (sz + 53))]) F 3 rfl (congrArg (l3 + ·) (by decide)) (by decide) dL_law_1045 rfl ?_
    refine z_goto (tgt := 18) F dL_law_1048 (by decide) ?_
    refine z_sub (lv' := [(0, .ref b), (1, .ref sz), (2, .ref (sz + 53)), (3, .int (l3 + 4))]) [1, 2, 3, 0] rfl ?_
    exact z_back (fun h => h)
  · exact z_no (fun h => absurd (show (0 : Int32) = 1 from h) (by decide))
def lc_27 (L : Nat) (xs : Nat → Int32) (sz : Nat) (l3 : Int32) (g : zG) : Option zlR :=
  zc (zin (l3 + 1) L) (zc (zin (l3 + 2) L) (zc (zin (l3 + 3) L) (zb (f_X9_sheet sz (xs (l3 + 1).toNatClampNeg) (xs (l3 + 2).toNatClampNeg) (xs (l3 + 3).toNatClampNeg) g) (fun v1 g1 => zc (zin (l3 + 1) L) (zc (zin (l3 + 2) L) (zc (zin (l3 + 3) L) (zb (f_X10_sheet (sz + 53) (xs (l3 + 1).toNatClampNeg) (xs (l3 + 2).toNatClampNeg) (xs (l3 + 3).toNatClampNeg) g1) (fun v2 g2 => zcont l3 v1 v2 g2))))))))
set_option maxRecDepth 100000 in
set_option maxHeartbeats 4000000 in
theorem ltc_27 {E : zE} {D : zD} {A : Nat → Prop} {Q : State → Prop} {b L sz : Nat} {xs : Nat → Int32} (F : zF E D A cL_law "TypeChainLaw" 4 (some .boolean)) (hR : E.2.2.2.1 = room_1) (hX : va_X b L xs E.2.2.2.2.1 E.2.2.2.2.1.heap) (hbl : b < E.2.2.2.2.1.heap.size) (hbA : ¬ A b) (l3 : Int32) (g : zG) : zSim (zKl (fun s : Int32 × zG => zAt E D A Q 4 (zkl sz) s.2 18 [(0, .ref b), (1, .ref sz), (2, .ref (sz + 53)), (3, .int s.1)] []) (fun q : Int32 × zG => q.1 = 1)) (lc_27 L xs sz l3 g) (zAt E D A Q 4 (zkl sz) g 893 [(0, .ref b), (1, .ref sz), (2, .ref (sz + 53)), (3, .int l3)] []) := by
  unfold lc_27
  refine z_aload_n F 1 rfl rfl dL_law_893 ?_
  refine z_aload_n F 0 rfl rfl dL_law_894 ?_
  refine z_iload_n F 3 rfl rfl dL_law_895 ?_
  refine z_iconst (v := 1) F (by decide) dL_law_896 ?_
  refine z_iadd F dL_law_897 ?_
  refine z_sld F hX hbl hbA dL_law_898 ?_
  refine z_aload_n F 0 rfl rfl dL_law_899 ?_
  refine z_iload_n F 3 rfl rfl dL_law_900 ?_
  refine z_iconst (v := 2) F (by decide) dL_law_901 ?_
  refine z_iadd F dL_law_902 ?_
  refine z_sld F hX hbl hbA dL_law_903 ?_
  refine z_aload_n F 0 rfl rfl dL_law_904 ?_
  refine z_iload_n F 3 rfl rfl dL_law_905 ?_
  refine z_iconst (v := 3) F (by decide) dL_law_906 ?_
  refine z_iadd F dL_law_907 ?_
  refine z_sld F hX hbl hbA dL_law_908 ?_
  refine k_X9_sheet (κ := zkl sz) F (by rw [hR]; exact ⟨by decide, by decide⟩) q_817 (t_law_X sz) ⟨by rw [hR]; exact Nat.le_of_ble_eq_true rfl, by rw [hR]; exact Nat.le_of_ble_eq_true rfl⟩ (Nat.le_of_ble_eq_true rfl) dL_law_909 (fun v1 g1 => ?_)
  refine z_aload_n F 2 rfl rfl dL_law_912 ?_
  refine z_aload_n F 0 rfl rfl dL_law_913 ?_
  refine z_iload_n F 3 rfl rfl dL_law_914 ?_
  refine z_iconst (v := 1) F (by decide) dL_law_915 ?_
  refine z_iadd F dL_law_916 ?_
  refine z_sld F hX hbl hbA dL_law_917 ?_
  refine z_aload_n F 0 rfl rfl dL_law_918 ?_
  refine z_iload_n F 3 rfl rfl dL_law_919 ?_
  refine z_iconst (v := 2) F (by decide) dL_law_920 ?_
  refine z_iadd F dL_law_921 ?_
  refine z_sld F hX hbl hbA dL_law_922 ?_
  refine z_aload_n F 0 rfl rfl dL_law_923 ?_
  refine z_iload_n F 3 rfl rfl dL_law_924 ?_
  refine z_iconst (v := 3) F (by decide) dL_law_925 ?_
  refine z_iadd F dL_law_926 ?_
  refine z_sld F hX hbl hbA dL_law_927 ?_
  refine k_X10_sheet (κ := zkl sz) F (by rw [hR]; exact ⟨by decide, by decide⟩) q_1334 (t_law_M sz) ⟨by rw [hR]; exact Nat.le_of_ble_eq_true rfl, by rw [hR]; exact Nat.le_of_ble_eq_true rfl⟩ (Nat.le_of_ble_eq_true rfl) dL_law_928 (fun v2 g2 => ?_)
  unfold zcont
  refine z_icmp_eq (tgt := 1045) F dL_law_931 (by decide) (fun c1 => ?_) (fun c1 => ?_)
  · refine z_iinc (v := l3 + 4) (lv' := [(3, .int (l3 + 4)), (0, .ref b), (1, .ref sz), (2, .ref (sz + 53))]) F 3 rfl (congrArg (l3 + ·) (by decide)) (by decide) dL_law_1045 rfl ?_
    refine z_goto (tgt := 18) F dL_law_1048 (by decide) ?_
    refine z_sub (lv' := [(0, .ref b), (1, .ref sz), (2, .ref (sz + 53)), (3, .int (l3 + 4))]) [1, 2, 3, 0] rfl ?_
    exact z_back (fun h => h)
  · exact z_no (fun h => absurd (show (0 : Int32) = 1 from h) (by decide))
def lc_28 (L : Nat) (xs : Nat → Int32) (sz : Nat) (l3 : Int32) (g : zG) : Option zlR :=
  zc (zin (l3 + 1) L) (zc (zin (l3 + 2) L) (zc (zin (l3 + 3) L) (zb (f_X9_lay sz (xs (l3 + 1).toNatClampNeg) (xs (l3 + 2).toNatClampNeg) (xs (l3 + 3).toNatClampNeg) g) (fun v1 g1 => zc (zin (l3 + 1) L) (zc (zin (l3 + 2) L) (zc (zin (l3 + 3) L) (zb (f_X10_lay (sz + 53) (xs (l3 + 1).toNatClampNeg) (xs (l3 + 2).toNatClampNeg) (xs (l3 + 3).toNatClampNeg) g1) (fun v2 g2 => zcont l3 v1 v2 g2))))))))
set_option maxRecDepth 100000 in
set_option maxHeartbeats 4000000 in
theorem ltc_28 {E : zE} {D : zD} {A : Nat → Prop} {Q : State → Prop} {b L sz : Nat} {xs : Nat → Int32} (F : zF E D A cL_law "TypeChainLaw" 4 (some .boolean)) (hR : E.2.2.2.1 = room_1) (hX : va_X b L xs E.2.2.2.2.1 E.2.2.2.2.1.heap) (hbl : b < E.2.2.2.2.1.heap.size) (hbA : ¬ A b) (l3 : Int32) (g : zG) : zSim (zKl (fun s : Int32 × zG => zAt E D A Q 4 (zkl sz) s.2 18 [(0, .ref b), (1, .ref sz), (2, .ref (sz + 53)), (3, .int s.1)] []) (fun q : Int32 × zG => q.1 = 1)) (lc_28 L xs sz l3 g) (zAt E D A Q 4 (zkl sz) g 936 [(0, .ref b), (1, .ref sz), (2, .ref (sz + 53)), (3, .int l3)] []) := by
  unfold lc_28
  refine z_aload_n F 1 rfl rfl dL_law_936 ?_
  refine z_aload_n F 0 rfl rfl dL_law_937 ?_
  refine z_iload_n F 3 rfl rfl dL_law_938 ?_
  refine z_iconst (v := 1) F (by decide) dL_law_939 ?_
  refine z_iadd F dL_law_940 ?_
  refine z_sld F hX hbl hbA dL_law_941 ?_
  refine z_aload_n F 0 rfl rfl dL_law_942 ?_
  refine z_iload_n F 3 rfl rfl dL_law_943 ?_
  refine z_iconst (v := 2) F (by decide) dL_law_944 ?_
  refine z_iadd F dL_law_945 ?_
  refine z_sld F hX hbl hbA dL_law_946 ?_
  refine z_aload_n F 0 rfl rfl dL_law_947 ?_
  refine z_iload_n F 3 rfl rfl dL_law_948 ?_
  refine z_iconst (v := 3) F (by decide) dL_law_949 ?_
  refine z_iadd F dL_law_950 ?_
  refine z_sld F hX hbl hbA dL_law_951 ?_
  refine k_X9_lay (κ := zkl sz) F (by rw [hR]; exact ⟨by decide, by decide⟩) q_831 (t_law_X sz) ⟨by rw [hR]; exact Nat.le_of_ble_eq_true rfl, by rw [hR]; exact Nat.le_of_ble_eq_true rfl⟩ (Nat.le_of_ble_eq_true rfl) dL_law_952 (fun v1 g1 => ?_)
  refine z_aload_n F 2 rfl rfl dL_law_955 ?_
  refine z_aload_n F 0 rfl rfl dL_law_956 ?_
  refine z_iload_n F 3 rfl rfl dL_law_957 ?_
  refine z_iconst (v := 1) F (by decide) dL_law_958 ?_
  refine z_iadd F dL_law_959 ?_
  refine z_sld F hX hbl hbA dL_law_960 ?_
  refine z_aload_n F 0 rfl rfl dL_law_961 ?_
  refine z_iload_n F 3 rfl rfl dL_law_962 ?_
  refine z_iconst (v := 2) F (by decide) dL_law_963 ?_
  refine z_iadd F dL_law_964 ?_
  refine z_sld F hX hbl hbA dL_law_965 ?_
  refine z_aload_n F 0 rfl rfl dL_law_966 ?_
  refine z_iload_n F 3 rfl rfl dL_law_967 ?_
  refine z_iconst (v := 3) F (by decide) dL_law_968 ?_
  refine z_iadd F dL_law_969 ?_
  refine z_sld F hX hbl hbA dL_law_970 ?_
  refine k_X10_lay (κ := zkl sz) F (by rw [hR]; exact ⟨by decide, by decide⟩) q_1342 (t_law_M sz) ⟨by rw [hR]; exact Nat.le_of_ble_eq_true rfl, by rw [hR]; exact Nat.le_of_ble_eq_true rfl⟩ (Nat.le_of_ble_eq_true rfl) dL_law_971 (fun v2 g2 => ?_)
  unfold zcont
  refine z_icmp_eq (tgt := 1045) F dL_law_974 (by decide) (fun c1 => ?_) (fun c1 => ?_)
  · refine z_iinc (v := l3 + 4) (lv' := [(3, .int (l3 + 4)), (0, .ref b), (1, .ref sz), (2, .ref (sz + 53))]) F 3 rfl (congrArg (l3 + ·) (by decide)) (by decide) dL_law_1045 rfl ?_
    refine z_goto (tgt := 18) F dL_law_1048 (by decide) ?_
    refine z_sub (lv' := [(0, .ref b), (1, .ref sz), (2, .ref (sz + 53)), (3, .int (l3 + 4))]) [1, 2, 3, 0] rfl ?_
    exact z_back (fun h => h)
  · exact z_no (fun h => absurd (show (0 : Int32) = 1 from h) (by decide))
def lc_29 (L : Nat) (xs : Nat → Int32) (sz : Nat) (l3 : Int32) (g : zG) : Option zlR :=
  zc (zin (l3 + 1) L) (zc (zin (l3 + 2) L) (zc (zin (l3 + 3) L) (zb (f_X9_read sz (xs (l3 + 1).toNatClampNeg) (xs (l3 + 2).toNatClampNeg) (xs (l3 + 3).toNatClampNeg) g) (fun v1 g1 => zc (zin (l3 + 1) L) (zc (zin (l3 + 2) L) (zc (zin (l3 + 3) L) (zb (f_X10_read (sz + 53) (xs (l3 + 1).toNatClampNeg) (xs (l3 + 2).toNatClampNeg) (xs (l3 + 3).toNatClampNeg) g1) (fun v2 g2 => zcont l3 v1 v2 g2))))))))
set_option maxRecDepth 100000 in
set_option maxHeartbeats 4000000 in
theorem ltc_29 {E : zE} {D : zD} {A : Nat → Prop} {Q : State → Prop} {b L sz : Nat} {xs : Nat → Int32} (F : zF E D A cL_law "TypeChainLaw" 4 (some .boolean)) (hR : E.2.2.2.1 = room_1) (hX : va_X b L xs E.2.2.2.2.1 E.2.2.2.2.1.heap) (hbl : b < E.2.2.2.2.1.heap.size) (hbA : ¬ A b) (l3 : Int32) (g : zG) : zSim (zKl (fun s : Int32 × zG => zAt E D A Q 4 (zkl sz) s.2 18 [(0, .ref b), (1, .ref sz), (2, .ref (sz + 53)), (3, .int s.1)] []) (fun q : Int32 × zG => q.1 = 1)) (lc_29 L xs sz l3 g) (zAt E D A Q 4 (zkl sz) g 979 [(0, .ref b), (1, .ref sz), (2, .ref (sz + 53)), (3, .int l3)] []) := by
  unfold lc_29
  refine z_aload_n F 1 rfl rfl dL_law_979 ?_
  refine z_aload_n F 0 rfl rfl dL_law_980 ?_
  refine z_iload_n F 3 rfl rfl dL_law_981 ?_
  refine z_iconst (v := 1) F (by decide) dL_law_982 ?_
  refine z_iadd F dL_law_983 ?_
  refine z_sld F hX hbl hbA dL_law_984 ?_
  refine z_aload_n F 0 rfl rfl dL_law_985 ?_
  refine z_iload_n F 3 rfl rfl dL_law_986 ?_
  refine z_iconst (v := 2) F (by decide) dL_law_987 ?_
  refine z_iadd F dL_law_988 ?_
  refine z_sld F hX hbl hbA dL_law_989 ?_
  refine z_aload_n F 0 rfl rfl dL_law_990 ?_
  refine z_iload_n F 3 rfl rfl dL_law_991 ?_
  refine z_iconst (v := 3) F (by decide) dL_law_992 ?_
  refine z_iadd F dL_law_993 ?_
  refine z_sld F hX hbl hbA dL_law_994 ?_
  refine k_X9_read (κ := zkl sz) F (by rw [hR]; exact ⟨by decide, by decide⟩) q_847 (t_law_X sz) ⟨by rw [hR]; exact Nat.le_of_ble_eq_true rfl, by rw [hR]; exact Nat.le_of_ble_eq_true rfl⟩ (Nat.le_of_ble_eq_true rfl) dL_law_995 (fun v1 g1 => ?_)
  refine z_aload_n F 2 rfl rfl dL_law_998 ?_
  refine z_aload_n F 0 rfl rfl dL_law_999 ?_
  refine z_iload_n F 3 rfl rfl dL_law_1000 ?_
  refine z_iconst (v := 1) F (by decide) dL_law_1001 ?_
  refine z_iadd F dL_law_1002 ?_
  refine z_sld F hX hbl hbA dL_law_1003 ?_
  refine z_aload_n F 0 rfl rfl dL_law_1004 ?_
  refine z_iload_n F 3 rfl rfl dL_law_1005 ?_
  refine z_iconst (v := 2) F (by decide) dL_law_1006 ?_
  refine z_iadd F dL_law_1007 ?_
  refine z_sld F hX hbl hbA dL_law_1008 ?_
  refine z_aload_n F 0 rfl rfl dL_law_1009 ?_
  refine z_iload_n F 3 rfl rfl dL_law_1010 ?_
  refine z_iconst (v := 3) F (by decide) dL_law_1011 ?_
  refine z_iadd F dL_law_1012 ?_
  refine z_sld F hX hbl hbA dL_law_1013 ?_
  refine k_X10_read (κ := zkl sz) F (by rw [hR]; exact ⟨by decide, by decide⟩) q_1346 (t_law_M sz) ⟨by rw [hR]; exact Nat.le_of_ble_eq_true rfl, by rw [hR]; exact Nat.le_of_ble_eq_true rfl⟩ (Nat.le_of_ble_eq_true rfl) dL_law_1014 (fun v2 g2 => ?_)
  unfold zcont
  refine z_icmp_eq (tgt := 1045) F dL_law_1017 (by decide) (fun c1 => ?_) (fun c1 => ?_)
  · refine z_iinc (v := l3 + 4) (lv' := [(3, .int (l3 + 4)), (0, .ref b), (1, .ref sz), (2, .ref (sz + 53))]) F 3 rfl (congrArg (l3 + ·) (by decide)) (by decide) dL_law_1045 rfl ?_
    refine z_goto (tgt := 18) F dL_law_1048 (by decide) ?_
    refine z_sub (lv' := [(0, .ref b), (1, .ref sz), (2, .ref (sz + 53)), (3, .int (l3 + 4))]) [1, 2, 3, 0] rfl ?_
    exact z_back (fun h => h)
  · exact z_no (fun h => absurd (show (0 : Int32) = 1 from h) (by decide))
def lc_30 (L : Nat) (xs : Nat → Int32) (sz : Nat) (l3 : Int32) (g : zG) : Option zlR :=
  zc (zin (l3 + 1) L) (zb (f_X9_count sz (xs (l3 + 1).toNatClampNeg) g) (fun v1 g1 => zc (zin (l3 + 1) L) (zb (f_X10_count (sz + 53) (xs (l3 + 1).toNatClampNeg) g1) (fun v2 g2 => zcont l3 v1 v2 g2))))
set_option maxRecDepth 100000 in
set_option maxHeartbeats 4000000 in
theorem ltc_30 {E : zE} {D : zD} {A : Nat → Prop} {Q : State → Prop} {b L sz : Nat} {xs : Nat → Int32} (F : zF E D A cL_law "TypeChainLaw" 4 (some .boolean)) (hR : E.2.2.2.1 = room_1) (hX : va_X b L xs E.2.2.2.2.1 E.2.2.2.2.1.heap) (hbl : b < E.2.2.2.2.1.heap.size) (hbA : ¬ A b) (l3 : Int32) (g : zG) : zSim (zKl (fun s : Int32 × zG => zAt E D A Q 4 (zkl sz) s.2 18 [(0, .ref b), (1, .ref sz), (2, .ref (sz + 53)), (3, .int s.1)] []) (fun q : Int32 × zG => q.1 = 1)) (lc_30 L xs sz l3 g) (zAt E D A Q 4 (zkl sz) g 1022 [(0, .ref b), (1, .ref sz), (2, .ref (sz + 53)), (3, .int l3)] []) := by
  unfold lc_30
  refine z_aload_n F 1 rfl rfl dL_law_1022 ?_
  refine z_aload_n F 0 rfl rfl dL_law_1023 ?_
  refine z_iload_n F 3 rfl rfl dL_law_1024 ?_
  refine z_iconst (v := 1) F (by decide) dL_law_1025 ?_
  refine z_iadd F dL_law_1026 ?_
  refine z_sld F hX hbl hbA dL_law_1027 ?_
  refine k_X9_count (κ := zkl sz) F (by rw [hR]; exact ⟨by decide, by decide⟩) q_859 (t_law_X sz) ⟨by rw [hR]; exact Nat.le_of_ble_eq_true rfl, by rw [hR]; exact Nat.le_of_ble_eq_true rfl⟩ (Nat.le_of_ble_eq_true rfl) dL_law_1028 (fun v1 g1 => ?_)
  refine z_aload_n F 2 rfl rfl dL_law_1031 ?_
  refine z_aload_n F 0 rfl rfl dL_law_1032 ?_
  refine z_iload_n F 3 rfl rfl dL_law_1033 ?_
  refine z_iconst (v := 1) F (by decide) dL_law_1034 ?_
  refine z_iadd F dL_law_1035 ?_
  refine z_sld F hX hbl hbA dL_law_1036 ?_
  refine k_X10_count (κ := zkl sz) F (by rw [hR]; exact ⟨by decide, by decide⟩) q_1354 (t_law_M sz) ⟨by rw [hR]; exact Nat.le_of_ble_eq_true rfl, by rw [hR]; exact Nat.le_of_ble_eq_true rfl⟩ (Nat.le_of_ble_eq_true rfl) dL_law_1037 (fun v2 g2 => ?_)
  unfold zcont
  refine z_icmp_eq (tgt := 1045) F dL_law_1040 (by decide) (fun c1 => ?_) (fun c1 => ?_)
  · refine z_iinc (v := l3 + 4) (lv' := [(3, .int (l3 + 4)), (0, .ref b), (1, .ref sz), (2, .ref (sz + 53))]) F 3 rfl (congrArg (l3 + ·) (by decide)) (by decide) dL_law_1045 rfl ?_
    refine z_goto (tgt := 18) F dL_law_1048 (by decide) ?_
    refine z_sub (lv' := [(0, .ref b), (1, .ref sz), (2, .ref (sz + 53)), (3, .int (l3 + 4))]) [1, 2, 3, 0] rfl ?_
    exact z_back (fun h => h)
  · exact z_no (fun h => absurd (show (0 : Int32) = 1 from h) (by decide))
def lstep (L : Nat) (xs : Nat → Int32) (sz : Nat) (l3 : Int32) (g : zG) : Option zlR :=
  if Int32.ofNat L - 4 < l3 then some (.inr (1, g)) else zc (zin l3 L) (zl (xs l3.toNatClampNeg &&& 31) (fun v => if v = 0 then lc_0 L xs sz l3 g else if v = 1 then lc_1 L xs sz l3 g else if v = 2 then lc_2 L xs sz l3 g else if v = 3 then lc_3 L xs sz l3 g else if v = 4 then lc_4 L xs sz l3 g else if v = 5 then lc_5 L xs sz l3 g else if v = 6 then lc_6 L xs sz l3 g else if v = 7 then lc_7 L xs sz l3 g else if v = 8 then lc_8 L xs sz l3 g else if v = 9 then lc_9 L xs sz l3 g else if v = 10 then lc_10 L xs sz l3 g else if v = 11 then lc_11 L xs sz l3 g else if v = 12 then lc_12 L xs sz l3 g else if v = 13 then lc_13 L xs sz l3 g else if v = 14 then lc_14 L xs sz l3 g else if v = 15 then lc_15 L xs sz l3 g else if v = 16 then lc_16 L xs sz l3 g else if v = 17 then lc_17 L xs sz l3 g else if v = 18 then lc_18 L xs sz l3 g else if v = 19 then lc_19 L xs sz l3 g else if v = 20 then lc_20 L xs sz l3 g else if v = 21 then lc_21 L xs sz l3 g else if v = 22 then lc_22 L xs sz l3 g else if v = 23 then lc_23 L xs sz l3 g else if v = 24 then lc_24 L xs sz l3 g else if v = 25 then lc_25 L xs sz l3 g else if v = 26 then lc_26 L xs sz l3 g else if v = 27 then lc_27 L xs sz l3 g else if v = 28 then lc_28 L xs sz l3 g else if v = 29 then lc_29 L xs sz l3 g else if v = 30 then lc_30 L xs sz l3 g else some (.inl (l3 + 4, g))))
set_option maxRecDepth 100000 in
set_option maxHeartbeats 4000000 in
theorem lstep_sim {E : zE} {D : zD} {A : Nat → Prop} {Q : State → Prop} {b L sz : Nat} {xs : Nat → Int32} (F : zF E D A cL_law "TypeChainLaw" 4 (some .boolean)) (hR : E.2.2.2.1 = room_1) (hX : va_X b L xs E.2.2.2.2.1 E.2.2.2.2.1.heap) (hbl : b < E.2.2.2.2.1.heap.size) (hbA : ¬ A b) (hret : ∀ g : zG, zAt E D A Q 4 (zkl sz) g 1052 [] [.int 1]) (l3 : Int32) (g : zG) : zSim (zKl (fun s : Int32 × zG => zAt E D A Q 4 (zkl sz) s.2 18 [(0, .ref b), (1, .ref sz), (2, .ref (sz + 53)), (3, .int s.1)] []) (fun q : Int32 × zG => q.1 = 1)) (lstep L xs sz l3 g) (zAt E D A Q 4 (zkl sz) g 18 [(0, .ref b), (1, .ref sz), (2, .ref (sz + 53)), (3, .int l3)] []) := by
  unfold lstep
  refine z_iload_n F 3 rfl rfl dL_law_18 ?_
  refine z_aload_n F 0 rfl rfl dL_law_19 ?_
  refine z_slen F hX hbl hbA dL_law_20 ?_
  refine z_iconst (v := 4) F (by decide) dL_law_21 ?_
  refine z_isub F dL_law_22 ?_
  refine z_icmp_gt (tgt := 1051) F dL_law_23 (by decide) (fun c0 => ?_) (fun c0 => ?_)
  · refine z_iconst (v := 1) F (by decide) dL_law_1051 ?_
    refine z_sub (lv' := []) [] rfl ?_
    exact fun r hr hK => hret g
  · refine z_aload_n F 0 rfl rfl dL_law_26 ?_
    refine z_iload_n F 3 rfl rfl dL_law_27 ?_
    refine z_sld F hX hbl hbA dL_law_28 ?_
    refine z_bipush (v := 31) F (by decide) dL_law_29 ?_
    refine z_iand F dL_law_31 ?_
    refine z_leti (fun v => ?_)
    refine z_ite (fun c1 => z_tableIn (tgt := 172) F 0 c1 dL_law_32 (by decide) (by decide) rfl (by decide) (ltc_0 F hR hX hbl hbA l3 g)) (fun c1 => ?_)
    refine z_ite (fun c2 => z_tableIn (tgt := 225) F 1 c2 dL_law_32 (by decide) (by decide) rfl (by decide) (ltc_1 F hR hX hbl hbA l3 g)) (fun c2 => ?_)
    refine z_ite (fun c3 => z_tableIn (tgt := 248) F 2 c3 dL_law_32 (by decide) (by decide) rfl (by decide) (ltc_2 F hR hX hbl hbA l3 g)) (fun c3 => ?_)
    refine z_ite (fun c4 => z_tableIn (tgt := 261) F 3 c4 dL_law_32 (by decide) (by decide) rfl (by decide) (ltc_3 F hR hX hbl hbA l3 g)) (fun c4 => ?_)
    refine z_ite (fun c5 => z_tableIn (tgt := 274) F 4 c5 dL_law_32 (by decide) (by decide) rfl (by decide) (ltc_4 F hR hX hbl hbA l3 g)) (fun c5 => ?_)
    refine z_ite (fun c6 => z_tableIn (tgt := 297) F 5 c6 dL_law_32 (by decide) (by decide) rfl (by decide) (ltc_5 F hR hX hbl hbA l3 g)) (fun c6 => ?_)
    refine z_ite (fun c7 => z_tableIn (tgt := 320) F 6 c7 dL_law_32 (by decide) (by decide) rfl (by decide) (ltc_6 F hR hX hbl hbA l3 g)) (fun c7 => ?_)
    refine z_ite (fun c8 => z_tableIn (tgt := 343) F 7 c8 dL_law_32 (by decide) (by decide) rfl (by decide) (ltc_7 F hR hX hbl hbA l3 g)) (fun c8 => ?_)
    refine z_ite (fun c9 => z_tableIn (tgt := 376) F 8 c9 dL_law_32 (by decide) (by decide) rfl (by decide) (ltc_8 F hR hX hbl hbA l3 g)) (fun c9 => ?_)
    refine z_ite (fun c10 => z_tableIn (tgt := 409) F 9 c10 dL_law_32 (by decide) (by decide) rfl (by decide) (ltc_9 F hR hX hbl hbA l3 g)) (fun c10 => ?_)
    refine z_ite (fun c11 => z_tableIn (tgt := 452) F 10 c11 dL_law_32 (by decide) (by decide) rfl (by decide) (ltc_10 F hR hX hbl hbA l3 g)) (fun c11 => ?_)
    refine z_ite (fun c12 => z_tableIn (tgt := 495) F 11 c12 dL_law_32 (by decide) (by decide) rfl (by decide) (ltc_11 F hR hX hbl hbA l3 g)) (fun c12 => ?_)
    refine z_ite (fun c13 => z_tableIn (tgt := 528) F 12 c13 dL_law_32 (by decide) (by decide) rfl (by decide) (ltc_12 F hR hX hbl hbA l3 g)) (fun c13 => ?_)
    refine z_ite (fun c14 => z_tableIn (tgt := 551) F 13 c14 dL_law_32 (by decide) (by decide) rfl (by decide) (ltc_13 F hR hX hbl hbA l3 g)) (fun c14 => ?_)
    refine z_ite (fun c15 => z_tableIn (tgt := 574) F 14 c15 dL_law_32 (by decide) (by decide) rfl (by decide) (ltc_14 F hR hX hbl hbA l3 g)) (fun c15 => ?_)
    refine z_ite (fun c16 => z_tableIn (tgt := 587) F 15 c16 dL_law_32 (by decide) (by decide) rfl (by decide) (ltc_15 F hR hX hbl hbA l3 g)) (fun c16 => ?_)
    refine z_ite (fun c17 => z_tableIn (tgt := 610) F 16 c17 dL_law_32 (by decide) (by decide) rfl (by decide) (ltc_16 F hR hX hbl hbA l3 g)) (fun c17 => ?_)
    refine z_ite (fun c18 => z_tableIn (tgt := 643) F 17 c18 dL_law_32 (by decide) (by decide) rfl (by decide) (ltc_17 F hR hX hbl hbA l3 g)) (fun c18 => ?_)
    refine z_ite (fun c19 => z_tableIn (tgt := 676) F 18 c19 dL_law_32 (by decide) (by decide) rfl (by decide) (ltc_18 F hR hX hbl hbA l3 g)) (fun c19 => ?_)
    refine z_ite (fun c20 => z_tableIn (tgt := 699) F 19 c20 dL_law_32 (by decide) (by decide) rfl (by decide) (ltc_19 F hR hX hbl hbA l3 g)) (fun c20 => ?_)
    refine z_ite (fun c21 => z_tableIn (tgt := 722) F 20 c21 dL_law_32 (by decide) (by decide) rfl (by decide) (ltc_20 F hR hX hbl hbA l3 g)) (fun c21 => ?_)
    refine z_ite (fun c22 => z_tableIn (tgt := 745) F 21 c22 dL_law_32 (by decide) (by decide) rfl (by decide) (ltc_21 F hR hX hbl hbA l3 g)) (fun c22 => ?_)
    refine z_ite (fun c23 => z_tableIn (tgt := 768) F 22 c23 dL_law_32 (by decide) (by decide) rfl (by decide) (ltc_22 F hR hX hbl hbA l3 g)) (fun c23 => ?_)
    refine z_ite (fun c24 => z_tableIn (tgt := 811) F 23 c24 dL_law_32 (by decide) (by decide) rfl (by decide) (ltc_23 F hR hX hbl hbA l3 g)) (fun c24 => ?_)
    refine z_ite (fun c25 => z_tableIn (tgt := 824) F 24 c25 dL_law_32 (by decide) (by decide) rfl (by decide) (ltc_24 F hR hX hbl hbA l3 g)) (fun c25 => ?_)
    refine z_ite (fun c26 => z_tableIn (tgt := 847) F 25 c26 dL_law_32 (by decide) (by decide) rfl (by decide) (ltc_25 F hR hX hbl hbA l3 g)) (fun c26 => ?_)
    refine z_ite (fun c27 => z_tableIn (tgt := 870) F 26 c27 dL_law_32 (by decide) (by decide) rfl (by decide) (ltc_26 F hR hX hbl hbA l3 g)) (fun c27 => ?_)
    refine z_ite (fun c28 => z_tableIn (tgt := 893) F 27 c28 dL_law_32 (by decide) (by decide) rfl (by decide) (ltc_27 F hR hX hbl hbA l3 g)) (fun c28 => ?_)
    refine z_ite (fun c29 => z_tableIn (tgt := 936) F 28 c29 dL_law_32 (by decide) (by decide) rfl (by decide) (ltc_28 F hR hX hbl hbA l3 g)) (fun c29 => ?_)
    refine z_ite (fun c30 => z_tableIn (tgt := 979) F 29 c30 dL_law_32 (by decide) (by decide) rfl (by decide) (ltc_29 F hR hX hbl hbA l3 g)) (fun c30 => ?_)
    refine z_ite (fun c31 => z_tableIn (tgt := 1022) F 30 c31 dL_law_32 (by decide) (by decide) rfl (by decide) (ltc_30 F hR hX hbl hbA l3 g)) (fun c31 => ?_)
    refine z_tableOut (tgt := 1045) F dL_law_32 (by have e0 := lv_neT (a := 0) c1 (by decide); have e1 := lv_neT (a := 1) c2 (by decide); have e2 := lv_neT (a := 2) c3 (by decide); have e3 := lv_neT (a := 3) c4 (by decide); have e4 := lv_neT (a := 4) c5 (by decide); have e5 := lv_neT (a := 5) c6 (by decide); have e6 := lv_neT (a := 6) c7 (by decide); have e7 := lv_neT (a := 7) c8 (by decide); have e8 := lv_neT (a := 8) c9 (by decide); have e9 := lv_neT (a := 9) c10 (by decide); have e10 := lv_neT (a := 10) c11 (by decide); have e11 := lv_neT (a := 11) c12 (by decide); have e12 := lv_neT (a := 12) c13 (by decide); have e13 := lv_neT (a := 13) c14 (by decide); have e14 := lv_neT (a := 14) c15 (by decide); have e15 := lv_neT (a := 15) c16 (by decide); have e16 := lv_neT (a := 16) c17 (by decide); have e17 := lv_neT (a := 17) c18 (by decide); have e18 := lv_neT (a := 18) c19 (by decide); have e19 := lv_neT (a := 19) c20 (by decide); have e20 := lv_neT (a := 20) c21 (by decide); have e21 := lv_neT (a := 21) c22 (by decide); have e22 := lv_neT (a := 22) c23 (by decide); have e23 := lv_neT (a := 23) c24 (by decide); have e24 := lv_neT (a := 24) c25 (by decide); have e25 := lv_neT (a := 25) c26 (by decide); have e26 := lv_neT (a := 26) c27 (by decide); have e27 := lv_neT (a := 27) c28 (by decide); have e28 := lv_neT (a := 28) c29 (by decide); have e29 := lv_neT (a := 29) c30 (by decide); have e30 := lv_neT (a := 30) c31 (by decide); omega) (by decide) ?_
    refine z_iinc (v := l3 + 4) (lv' := [(3, .int (l3 + 4)), (0, .ref b), (1, .ref sz), (2, .ref (sz + 53))]) F 3 rfl (congrArg (l3 + ·) (by decide)) (by decide) dL_law_1045 rfl ?_
    refine z_goto (tgt := 18) F dL_law_1048 (by decide) ?_
    refine z_sub (lv' := [(0, .ref b), (1, .ref sz), (2, .ref (sz + 53)), (3, .int (l3 + 4))]) [1, 2, 3, 0] rfl ?_
    exact z_back (fun h => h)
def f_law (L : Nat) (xs : Nat → Int32) (sz : Nat) (g : zG) : Option (Int32 × zG) :=
  zb (f_X9_init (sz + 1) sz (zz g sz)) (fun _ g1 => zb (f_X10_init (sz + 54) (sz + 53) (zz g1 (sz + 53))) (fun _ g2 => zw zN (fun s => lstep L xs sz s.1 s.2) (0, g2)))
set_option maxRecDepth 100000 in
set_option maxHeartbeats 4000000 in
theorem law_sim {E : zE} {D : zD} {A : Nat → Prop} {Q : State → Prop} {b L sz : Nat} {xs : Nat → Int32} (F : zF E D A cL_law "TypeChainLaw" 4 (some .boolean)) (hR : E.2.2.2.1 = room_1) (hX : va_X b L xs E.2.2.2.2.1 E.2.2.2.2.1.heap) (hbl : b < E.2.2.2.2.1.heap.size) (hbA : ¬ A b) (h0 : 0 < sz) (hret : ∀ g : zG, zAt E D A Q 4 (zkl sz) g 1052 [] [.int 1]) (g : zG) : zSim (fun q : Int32 × zG => q.1 = 1) (f_law L xs sz g) (zAt E D A Q 4 (sz, zno, 0, 0) g 0 [(0, .ref b)] []) := by
  unfold f_law
  refine z_new (C := (RX9, TX9, 11)) (c := 9) F rfl (by decide) inZ9 tyX9_ok (zdv_X9 _) q_21 q_22 q_1 h0 (by rw [hR]; exact Nat.le_of_ble_eq_true rfl) (by rw [hR]; exact Nat.le_of_ble_eq_true rfl) dL_law_0 ?_
  show zSim _ _ (zAt E D A Q 4 (sz + 1, (zts zno sz (.inr 20)), 1, 11) (zz g sz) 3 [(0, .ref b)] [.ref sz])
  refine z_dup F rfl dL_law_3 ?_
  refine z_callI (κ := (sz + 1, (zts zno sz (.inr 20)), 1, 11)) F (n := 0) (mc := 52) (ms := 6766) (rm := rm_X9_init) (rv := zrV) (As := []) (st := [.ref sz]) ⟨q_25, q_1, by decide +kernel, rfl, rfl, by rw [hR]; decide, by rw [hR]; decide⟩ (c_X9_init E.2.1 D (sz + 1) (zts zno sz (.inr 20)) (zz g sz) sz (by omega) (zts_same _ _ _)) (Or.inl q_23) q_24 rfl rfl ⟨by rw [hR]; exact Nat.le_of_ble_eq_true rfl, by rw [hR]; exact Nat.le_of_ble_eq_true rfl⟩ (Nat.le_of_ble_eq_true rfl) dL_law_4 (fun v1 g1 => ?_) _ rfl
  show zSim _ _ (zAt E D A Q 4 (sz + 53, (t_X9_init (zts zno sz (.inr 20)) (sz + 1) sz), 53, 6777) g1 7 [(0, .ref b)] [.ref sz])
  refine z_astore_n (lv' := [(1, .ref sz), (0, .ref b)]) F rfl (by decide) dL_law_7 rfl ?_
  refine z_new (C := (RX10, TX10, 61)) (c := 10) F rfl (by decide) inZ10 tyX10_ok (zdv_X10 _) q_866 q_867 q_14 (by show 0 < _; omega) (by rw [hR]; exact Nat.le_of_ble_eq_true rfl) (by rw [hR]; exact Nat.le_of_ble_eq_true rfl) dL_law_8 ?_
  show zSim _ _ (zAt E D A Q 4 (sz + 54, (zts (t_X9_init (zts zno sz (.inr 20)) (sz + 1) sz) (sz + 53) (.inr 21)), 54, 6838) (zz g1 (sz + 53)) 11 [(1, .ref sz), (0, .ref b)] [.ref (sz + 53)])
  refine z_dup F rfl dL_law_11 ?_
  refine z_callI (κ := (sz + 54, (zts (t_X9_init (zts zno sz (.inr 20)) (sz + 1) sz) (sz + 53) (.inr 21)), 54, 6838)) F (n := 0) (mc := 35) (ms := 6630) (rm := rm_X10_init) (rv := zrV) (As := []) (st := [.ref (sz + 53)]) ⟨q_870, q_14, by decide +kernel, rfl, rfl, by rw [hR]; decide, by rw [hR]; decide⟩ (c_X10_init E.2.1 D (sz + 54) (zts (t_X9_init (zts zno sz (.inr 20)) (sz + 1) sz) (sz + 53) (.inr 21)) (zz g1 (sz + 53)) (sz + 53) (by omega) (zts_same _ _ _)) (Or.inl q_868) q_869 rfl rfl ⟨by rw [hR]; exact Nat.le_of_ble_eq_true rfl, by rw [hR]; exact Nat.le_of_ble_eq_true rfl⟩ (Nat.le_of_ble_eq_true rfl) dL_law_12 (fun v2 g2 => ?_) _ rfl
  show zSim _ _ (zAt E D A Q 4 (zkl sz) g2 15 [(1, .ref sz), (0, .ref b)] [.ref (sz + 53)])
  refine z_astore_n (lv' := [(2, .ref (sz + 53)), (1, .ref sz), (0, .ref b)]) F rfl (by decide) dL_law_15 rfl ?_
  refine z_iconst (v := 0) F (by decide) dL_law_16 ?_
  refine z_istore_n (lv' := [(3, .int 0), (2, .ref (sz + 53)), (1, .ref sz), (0, .ref b)]) F rfl (by decide) dL_law_17 rfl ?_
  refine z_sub (lv' := [(0, .ref b), (1, .ref sz), (2, .ref (sz + 53)), (3, .int 0)]) [3, 2, 1, 0] rfl ?_
  exact z_while (fun s : Int32 × zG => zAt E D A Q 4 (zkl sz) s.2 18 [(0, .ref b), (1, .ref sz), (2, .ref (sz + 53)), (3, .int s.1)] []) (fun s => lstep_sim F hR hX hbl hbA hret s.1 s.2) (0, g2)
