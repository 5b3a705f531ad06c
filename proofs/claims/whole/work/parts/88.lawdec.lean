/-! ===== the law: its instructions ===== -/
theorem dXL_law_0 : decode code 0 = .ok (.new 7, 3) := by decide +kernel
theorem dXL_law_3 : decode code 3 = .ok (.dup, 1) := by decide +kernel
theorem dXL_law_4 : decode code 4 = .ok (.invokespecial 9, 3) := by decide +kernel
theorem dXL_law_7 : decode code 7 = .ok (.astore_n 1, 1) := by decide +kernel
theorem dXL_law_8 : decode code 8 = .ok (.new 10, 3) := by decide +kernel
theorem dXL_law_11 : decode code 11 = .ok (.dup, 1) := by decide +kernel
theorem dXL_law_12 : decode code 12 = .ok (.invokespecial 12, 3) := by decide +kernel
theorem dXL_law_15 : decode code 15 = .ok (.astore_n 2, 1) := by decide +kernel
theorem dXL_law_16 : decode code 16 = .ok (.iconst 0, 1) := by decide +kernel
theorem dXL_law_17 : decode code 17 = .ok (.istore_n 3, 1) := by decide +kernel
theorem dXL_law_18 : decode code 18 = .ok (.iload_n 3, 1) := by decide +kernel
theorem dXL_law_19 : decode code 19 = .ok (.aload_n 0, 1) := by decide +kernel
theorem dXL_law_20 : decode code 20 = .ok (.arraylength, 1) := by decide +kernel
theorem dXL_law_21 : decode code 21 = .ok (.bipush 6, 2) := by decide +kernel
theorem dXL_law_23 : decode code 23 = .ok (.isub, 1) := by decide +kernel
theorem dXL_law_24 : decode code 24 = .ok (.if_icmp .gt 1386, 3) := by decide +kernel
theorem dXL_law_27 : decode code 27 = .ok (.aload_n 0, 1) := by decide +kernel
theorem dXL_law_28 : decode code 28 = .ok (.iload_n 3, 1) := by decide +kernel
theorem dXL_law_29 : decode code 29 = .ok (.iaload, 1) := by decide +kernel
theorem dXL_law_30 : decode code 30 = .ok (.bipush 63, 2) := by decide +kernel
theorem dXL_law_32 : decode code 32 = .ok (.iand, 1) := by decide +kernel
theorem dXL_law_33 : decode code 33 = .ok (.tableswitch 1371 0 37 #[167, 190, 223, 256, 289, 322, 365, 408, 431, 494, 517, 540, 573, 596, 619, 642, 665, 708, 741, 764, 797, 840, 883, 916, 949, 982, 1025, 1048, 1091, 1134, 1197, 1220, 1253, 1266, 1279, 1302, 1325, 1348], 167) := by decide +kernel
theorem dXL_law_200 : decode code 200 = .ok (.aload_n 1, 1) := by decide +kernel
theorem dXL_law_201 : decode code 201 = .ok (.aload_n 0, 1) := by decide +kernel
theorem dXL_law_202 : decode code 202 = .ok (.iload_n 3, 1) := by decide +kernel
theorem dXL_law_203 : decode code 203 = .ok (.iconst 1, 1) := by decide +kernel
theorem dXL_law_204 : decode code 204 = .ok (.iadd, 1) := by decide +kernel
theorem dXL_law_205 : decode code 205 = .ok (.iaload, 1) := by decide +kernel
theorem dXL_law_206 : decode code 206 = .ok (.invokevirtual 13, 3) := by decide +kernel
theorem dXL_law_209 : decode code 209 = .ok (.aload_n 2, 1) := by decide +kernel
theorem dXL_law_210 : decode code 210 = .ok (.aload_n 0, 1) := by decide +kernel
theorem dXL_law_211 : decode code 211 = .ok (.iload_n 3, 1) := by decide +kernel
theorem dXL_law_212 : decode code 212 = .ok (.iconst 1, 1) := by decide +kernel
theorem dXL_law_213 : decode code 213 = .ok (.iadd, 1) := by decide +kernel
theorem dXL_law_214 : decode code 214 = .ok (.iaload, 1) := by decide +kernel
theorem dXL_law_215 : decode code 215 = .ok (.invokevirtual 17, 3) := by decide +kernel
theorem dXL_law_218 : decode code 218 = .ok (.if_icmp .eq 1186, 3) := by decide +kernel
theorem dXL_law_221 : decode code 221 = .ok (.iconst 0, 1) := by decide +kernel
theorem dXL_law_222 : decode code 222 = .ok (.ireturn, 1) := by decide +kernel
theorem dXL_law_223 : decode code 223 = .ok (.aload_n 1, 1) := by decide +kernel
theorem dXL_law_224 : decode code 224 = .ok (.aload_n 0, 1) := by decide +kernel
theorem dXL_law_225 : decode code 225 = .ok (.iload_n 3, 1) := by decide +kernel
theorem dXL_law_226 : decode code 226 = .ok (.iconst 1, 1) := by decide +kernel
theorem dXL_law_227 : decode code 227 = .ok (.iadd, 1) := by decide +kernel
theorem dXL_law_228 : decode code 228 = .ok (.iaload, 1) := by decide +kernel
theorem dXL_law_229 : decode code 229 = .ok (.aload_n 0, 1) := by decide +kernel
theorem dXL_law_230 : decode code 230 = .ok (.iload_n 3, 1) := by decide +kernel
theorem dXL_law_231 : decode code 231 = .ok (.iconst 2, 1) := by decide +kernel
theorem dXL_law_232 : decode code 232 = .ok (.iadd, 1) := by decide +kernel
theorem dXL_law_233 : decode code 233 = .ok (.iaload, 1) := by decide +kernel
theorem dXL_law_234 : decode code 234 = .ok (.invokevirtual 18, 3) := by decide +kernel
theorem dXL_law_237 : decode code 237 = .ok (.aload_n 2, 1) := by decide +kernel
theorem dXL_law_238 : decode code 238 = .ok (.aload_n 0, 1) := by decide +kernel
theorem dXL_law_239 : decode code 239 = .ok (.iload_n 3, 1) := by decide +kernel
theorem dXL_law_240 : decode code 240 = .ok (.iconst 1, 1) := by decide +kernel
theorem dXL_law_241 : decode code 241 = .ok (.iadd, 1) := by decide +kernel
theorem dXL_law_242 : decode code 242 = .ok (.iaload, 1) := by decide +kernel
theorem dXL_law_243 : decode code 243 = .ok (.aload_n 0, 1) := by decide +kernel
theorem dXL_law_244 : decode code 244 = .ok (.iload_n 3, 1) := by decide +kernel
theorem dXL_law_245 : decode code 245 = .ok (.iconst 2, 1) := by decide +kernel
theorem dXL_law_246 : decode code 246 = .ok (.iadd, 1) := by decide +kernel
theorem dXL_law_247 : decode code 247 = .ok (.iaload, 1) := by decide +kernel
theorem dXL_law_248 : decode code 248 = .ok (.invokevirtual 22, 3) := by decide +kernel
theorem dXL_law_251 : decode code 251 = .ok (.if_icmp .eq 1153, 3) := by decide +kernel
theorem dXL_law_254 : decode code 254 = .ok (.iconst 0, 1) := by decide +kernel
theorem dXL_law_255 : decode code 255 = .ok (.ireturn, 1) := by decide +kernel
theorem dXL_law_256 : decode code 256 = .ok (.aload_n 1, 1) := by decide +kernel
theorem dXL_law_257 : decode code 257 = .ok (.aload_n 0, 1) := by decide +kernel
theorem dXL_law_258 : decode code 258 = .ok (.iload_n 3, 1) := by decide +kernel
theorem dXL_law_259 : decode code 259 = .ok (.iconst 1, 1) := by decide +kernel
theorem dXL_law_260 : decode code 260 = .ok (.iadd, 1) := by decide +kernel
theorem dXL_law_261 : decode code 261 = .ok (.iaload, 1) := by decide +kernel
theorem dXL_law_262 : decode code 262 = .ok (.aload_n 0, 1) := by decide +kernel
theorem dXL_law_263 : decode code 263 = .ok (.iload_n 3, 1) := by decide +kernel
theorem dXL_law_264 : decode code 264 = .ok (.iconst 2, 1) := by decide +kernel
theorem dXL_law_265 : decode code 265 = .ok (.iadd, 1) := by decide +kernel
theorem dXL_law_266 : decode code 266 = .ok (.iaload, 1) := by decide +kernel
theorem dXL_law_267 : decode code 267 = .ok (.invokevirtual 23, 3) := by decide +kernel
theorem dXL_law_270 : decode code 270 = .ok (.aload_n 2, 1) := by decide +kernel
theorem dXL_law_271 : decode code 271 = .ok (.aload_n 0, 1) := by decide +kernel
theorem dXL_law_272 : decode code 272 = .ok (.iload_n 3, 1) := by decide +kernel
theorem dXL_law_273 : decode code 273 = .ok (.iconst 1, 1) := by decide +kernel
theorem dXL_law_274 : decode code 274 = .ok (.iadd, 1) := by decide +kernel
theorem dXL_law_275 : decode code 275 = .ok (.iaload, 1) := by decide +kernel
theorem dXL_law_276 : decode code 276 = .ok (.aload_n 0, 1) := by decide +kernel
theorem dXL_law_277 : decode code 277 = .ok (.iload_n 3, 1) := by decide +kernel
theorem dXL_law_278 : decode code 278 = .ok (.iconst 2, 1) := by decide +kernel
theorem dXL_law_279 : decode code 279 = .ok (.iadd, 1) := by decide +kernel
theorem dXL_law_280 : decode code 280 = .ok (.iaload, 1) := by decide +kernel
theorem dXL_law_281 : decode code 281 = .ok (.invokevirtual 26, 3) := by decide +kernel
theorem dXL_law_284 : decode code 284 = .ok (.if_icmp .eq 1120, 3) := by decide +kernel
theorem dXL_law_287 : decode code 287 = .ok (.iconst 0, 1) := by decide +kernel
theorem dXL_law_288 : decode code 288 = .ok (.ireturn, 1) := by decide +kernel
theorem dXL_law_289 : decode code 289 = .ok (.aload_n 1, 1) := by decide +kernel
theorem dXL_law_290 : decode code 290 = .ok (.aload_n 0, 1) := by decide +kernel
theorem dXL_law_291 : decode code 291 = .ok (.iload_n 3, 1) := by decide +kernel
theorem dXL_law_292 : decode code 292 = .ok (.iconst 1, 1) := by decide +kernel
theorem dXL_law_293 : decode code 293 = .ok (.iadd, 1) := by decide +kernel
theorem dXL_law_294 : decode code 294 = .ok (.iaload, 1) := by decide +kernel
theorem dXL_law_295 : decode code 295 = .ok (.aload_n 0, 1) := by decide +kernel
theorem dXL_law_296 : decode code 296 = .ok (.iload_n 3, 1) := by decide +kernel
theorem dXL_law_297 : decode code 297 = .ok (.iconst 2, 1) := by decide +kernel
theorem dXL_law_298 : decode code 298 = .ok (.iadd, 1) := by decide +kernel
theorem dXL_law_299 : decode code 299 = .ok (.iaload, 1) := by decide +kernel
theorem dXL_law_300 : decode code 300 = .ok (.invokevirtual 27, 3) := by decide +kernel
theorem dXL_law_303 : decode code 303 = .ok (.aload_n 2, 1) := by decide +kernel
theorem dXL_law_304 : decode code 304 = .ok (.aload_n 0, 1) := by decide +kernel
theorem dXL_law_305 : decode code 305 = .ok (.iload_n 3, 1) := by decide +kernel
theorem dXL_law_306 : decode code 306 = .ok (.iconst 1, 1) := by decide +kernel
theorem dXL_law_307 : decode code 307 = .ok (.iadd, 1) := by decide +kernel
theorem dXL_law_308 : decode code 308 = .ok (.iaload, 1) := by decide +kernel
theorem dXL_law_309 : decode code 309 = .ok (.aload_n 0, 1) := by decide +kernel
theorem dXL_law_310 : decode code 310 = .ok (.iload_n 3, 1) := by decide +kernel
theorem dXL_law_311 : decode code 311 = .ok (.iconst 2, 1) := by decide +kernel
theorem dXL_law_312 : decode code 312 = .ok (.iadd, 1) := by decide +kernel
theorem dXL_law_313 : decode code 313 = .ok (.iaload, 1) := by decide +kernel
theorem dXL_law_314 : decode code 314 = .ok (.invokevirtual 30, 3) := by decide +kernel
theorem dXL_law_317 : decode code 317 = .ok (.if_icmp .eq 1087, 3) := by decide +kernel
theorem dXL_law_320 : decode code 320 = .ok (.iconst 0, 1) := by decide +kernel
theorem dXL_law_321 : decode code 321 = .ok (.ireturn, 1) := by decide +kernel
theorem dXL_law_322 : decode code 322 = .ok (.aload_n 1, 1) := by decide +kernel
theorem dXL_law_323 : decode code 323 = .ok (.aload_n 0, 1) := by decide +kernel
theorem dXL_law_324 : decode code 324 = .ok (.iload_n 3, 1) := by decide +kernel
theorem dXL_law_325 : decode code 325 = .ok (.iconst 1, 1) := by decide +kernel
theorem dXL_law_326 : decode code 326 = .ok (.iadd, 1) := by decide +kernel
theorem dXL_law_327 : decode code 327 = .ok (.iaload, 1) := by decide +kernel
theorem dXL_law_328 : decode code 328 = .ok (.aload_n 0, 1) := by decide +kernel
theorem dXL_law_329 : decode code 329 = .ok (.iload_n 3, 1) := by decide +kernel
theorem dXL_law_330 : decode code 330 = .ok (.iconst 2, 1) := by decide +kernel
theorem dXL_law_331 : decode code 331 = .ok (.iadd, 1) := by decide +kernel
theorem dXL_law_332 : decode code 332 = .ok (.iaload, 1) := by decide +kernel
theorem dXL_law_333 : decode code 333 = .ok (.invokevirtual 31, 3) := by decide +kernel
theorem dXL_law_336 : decode code 336 = .ok (.aload_n 2, 1) := by decide +kernel
theorem dXL_law_337 : decode code 337 = .ok (.aload_n 0, 1) := by decide +kernel
theorem dXL_law_338 : decode code 338 = .ok (.iload_n 3, 1) := by decide +kernel
theorem dXL_law_339 : decode code 339 = .ok (.iconst 1, 1) := by decide +kernel
theorem dXL_law_340 : decode code 340 = .ok (.iadd, 1) := by decide +kernel
theorem dXL_law_341 : decode code 341 = .ok (.iaload, 1) := by decide +kernel
theorem dXL_law_342 : decode code 342 = .ok (.aload_n 0, 1) := by decide +kernel
theorem dXL_law_343 : decode code 343 = .ok (.iload_n 3, 1) := by decide +kernel
theorem dXL_law_344 : decode code 344 = .ok (.iconst 2, 1) := by decide +kernel
theorem dXL_law_345 : decode code 345 = .ok (.iadd, 1) := by decide +kernel
theorem dXL_law_346 : decode code 346 = .ok (.iaload, 1) := by decide +kernel
theorem dXL_law_347 : decode code 347 = .ok (.invokevirtual 34, 3) := by decide +kernel
theorem dXL_law_350 : decode code 350 = .ok (.if_icmp .eq 1054, 3) := by decide +kernel
theorem dXL_law_353 : decode code 353 = .ok (.iconst 0, 1) := by decide +kernel
theorem dXL_law_354 : decode code 354 = .ok (.ireturn, 1) := by decide +kernel
theorem dXL_law_355 : decode code 355 = .ok (.aload_n 1, 1) := by decide +kernel
theorem dXL_law_356 : decode code 356 = .ok (.aload_n 0, 1) := by decide +kernel
theorem dXL_law_357 : decode code 357 = .ok (.iload_n 3, 1) := by decide +kernel
theorem dXL_law_358 : decode code 358 = .ok (.iconst 1, 1) := by decide +kernel
theorem dXL_law_359 : decode code 359 = .ok (.iadd, 1) := by decide +kernel
theorem dXL_law_360 : decode code 360 = .ok (.iaload, 1) := by decide +kernel
theorem dXL_law_361 : decode code 361 = .ok (.aload_n 0, 1) := by decide +kernel
theorem dXL_law_362 : decode code 362 = .ok (.iload_n 3, 1) := by decide +kernel
theorem dXL_law_363 : decode code 363 = .ok (.iconst 2, 1) := by decide +kernel
theorem dXL_law_364 : decode code 364 = .ok (.iadd, 1) := by decide +kernel
theorem dXL_law_365 : decode code 365 = .ok (.iaload, 1) := by decide +kernel
theorem dXL_law_366 : decode code 366 = .ok (.aload_n 0, 1) := by decide +kernel
theorem dXL_law_367 : decode code 367 = .ok (.iload_n 3, 1) := by decide +kernel
theorem dXL_law_368 : decode code 368 = .ok (.iconst 3, 1) := by decide +kernel
theorem dXL_law_369 : decode code 369 = .ok (.iadd, 1) := by decide +kernel
theorem dXL_law_370 : decode code 370 = .ok (.iaload, 1) := by decide +kernel
theorem dXL_law_371 : decode code 371 = .ok (.invokevirtual 35, 3) := by decide +kernel
theorem dXL_law_374 : decode code 374 = .ok (.aload_n 2, 1) := by decide +kernel
theorem dXL_law_375 : decode code 375 = .ok (.aload_n 0, 1) := by decide +kernel
theorem dXL_law_376 : decode code 376 = .ok (.iload_n 3, 1) := by decide +kernel
theorem dXL_law_377 : decode code 377 = .ok (.iconst 1, 1) := by decide +kernel
theorem dXL_law_378 : decode code 378 = .ok (.iadd, 1) := by decide +kernel
theorem dXL_law_379 : decode code 379 = .ok (.iaload, 1) := by decide +kernel
theorem dXL_law_380 : decode code 380 = .ok (.aload_n 0, 1) := by decide +kernel
theorem dXL_law_381 : decode code 381 = .ok (.iload_n 3, 1) := by decide +kernel
theorem dXL_law_382 : decode code 382 = .ok (.iconst 2, 1) := by decide +kernel
theorem dXL_law_383 : decode code 383 = .ok (.iadd, 1) := by decide +kernel
theorem dXL_law_384 : decode code 384 = .ok (.iaload, 1) := by decide +kernel
theorem dXL_law_385 : decode code 385 = .ok (.aload_n 0, 1) := by decide +kernel
theorem dXL_law_386 : decode code 386 = .ok (.iload_n 3, 1) := by decide +kernel
theorem dXL_law_387 : decode code 387 = .ok (.iconst 3, 1) := by decide +kernel
theorem dXL_law_388 : decode code 388 = .ok (.iadd, 1) := by decide +kernel
theorem dXL_law_389 : decode code 389 = .ok (.iaload, 1) := by decide +kernel
theorem dXL_law_390 : decode code 390 = .ok (.invokevirtual 39, 3) := by decide +kernel
theorem dXL_law_393 : decode code 393 = .ok (.if_icmp .eq 1011, 3) := by decide +kernel
theorem dXL_law_396 : decode code 396 = .ok (.iconst 0, 1) := by decide +kernel
theorem dXL_law_397 : decode code 397 = .ok (.ireturn, 1) := by decide +kernel
theorem dXL_law_398 : decode code 398 = .ok (.aload_n 1, 1) := by decide +kernel
theorem dXL_law_399 : decode code 399 = .ok (.aload_n 0, 1) := by decide +kernel
theorem dXL_law_400 : decode code 400 = .ok (.iload_n 3, 1) := by decide +kernel
theorem dXL_law_401 : decode code 401 = .ok (.iconst 1, 1) := by decide +kernel
theorem dXL_law_402 : decode code 402 = .ok (.iadd, 1) := by decide +kernel
theorem dXL_law_403 : decode code 403 = .ok (.iaload, 1) := by decide +kernel
theorem dXL_law_404 : decode code 404 = .ok (.aload_n 0, 1) := by decide +kernel
theorem dXL_law_405 : decode code 405 = .ok (.iload_n 3, 1) := by decide +kernel
theorem dXL_law_406 : decode code 406 = .ok (.iconst 2, 1) := by decide +kernel
theorem dXL_law_407 : decode code 407 = .ok (.iadd, 1) := by decide +kernel
theorem dXL_law_408 : decode code 408 = .ok (.iaload, 1) := by decide +kernel
theorem dXL_law_409 : decode code 409 = .ok (.aload_n 0, 1) := by decide +kernel
theorem dXL_law_410 : decode code 410 = .ok (.iload_n 3, 1) := by decide +kernel
theorem dXL_law_411 : decode code 411 = .ok (.iconst 3, 1) := by decide +kernel
theorem dXL_law_412 : decode code 412 = .ok (.iadd, 1) := by decide +kernel
theorem dXL_law_413 : decode code 413 = .ok (.iaload, 1) := by decide +kernel
theorem dXL_law_414 : decode code 414 = .ok (.invokevirtual 40, 3) := by decide +kernel
theorem dXL_law_417 : decode code 417 = .ok (.aload_n 2, 1) := by decide +kernel
theorem dXL_law_418 : decode code 418 = .ok (.aload_n 0, 1) := by decide +kernel
theorem dXL_law_419 : decode code 419 = .ok (.iload_n 3, 1) := by decide +kernel
theorem dXL_law_420 : decode code 420 = .ok (.iconst 1, 1) := by decide +kernel
theorem dXL_law_421 : decode code 421 = .ok (.iadd, 1) := by decide +kernel
theorem dXL_law_422 : decode code 422 = .ok (.iaload, 1) := by decide +kernel
theorem dXL_law_423 : decode code 423 = .ok (.aload_n 0, 1) := by decide +kernel
theorem dXL_law_424 : decode code 424 = .ok (.iload_n 3, 1) := by decide +kernel
theorem dXL_law_425 : decode code 425 = .ok (.iconst 2, 1) := by decide +kernel
theorem dXL_law_426 : decode code 426 = .ok (.iadd, 1) := by decide +kernel
theorem dXL_law_427 : decode code 427 = .ok (.iaload, 1) := by decide +kernel
theorem dXL_law_428 : decode code 428 = .ok (.aload_n 0, 1) := by decide +kernel
theorem dXL_law_429 : decode code 429 = .ok (.iload_n 3, 1) := by decide +kernel
theorem dXL_law_430 : decode code 430 = .ok (.iconst 3, 1) := by decide +kernel
theorem dXL_law_431 : decode code 431 = .ok (.iadd, 1) := by decide +kernel
theorem dXL_law_432 : decode code 432 = .ok (.iaload, 1) := by decide +kernel
theorem dXL_law_433 : decode code 433 = .ok (.invokevirtual 43, 3) := by decide +kernel
theorem dXL_law_436 : decode code 436 = .ok (.if_icmp .eq 968, 3) := by decide +kernel
theorem dXL_law_439 : decode code 439 = .ok (.iconst 0, 1) := by decide +kernel
theorem dXL_law_440 : decode code 440 = .ok (.ireturn, 1) := by decide +kernel
theorem dXL_law_441 : decode code 441 = .ok (.aload_n 1, 1) := by decide +kernel
theorem dXL_law_442 : decode code 442 = .ok (.aload_n 0, 1) := by decide +kernel
theorem dXL_law_443 : decode code 443 = .ok (.iload_n 3, 1) := by decide +kernel
theorem dXL_law_444 : decode code 444 = .ok (.iconst 1, 1) := by decide +kernel
theorem dXL_law_445 : decode code 445 = .ok (.iadd, 1) := by decide +kernel
theorem dXL_law_446 : decode code 446 = .ok (.iaload, 1) := by decide +kernel
theorem dXL_law_447 : decode code 447 = .ok (.invokevirtual 44, 3) := by decide +kernel
theorem dXL_law_450 : decode code 450 = .ok (.aload_n 2, 1) := by decide +kernel
theorem dXL_law_451 : decode code 451 = .ok (.aload_n 0, 1) := by decide +kernel
theorem dXL_law_452 : decode code 452 = .ok (.iload_n 3, 1) := by decide +kernel
theorem dXL_law_453 : decode code 453 = .ok (.iconst 1, 1) := by decide +kernel
theorem dXL_law_454 : decode code 454 = .ok (.iadd, 1) := by decide +kernel
theorem dXL_law_455 : decode code 455 = .ok (.iaload, 1) := by decide +kernel
theorem dXL_law_456 : decode code 456 = .ok (.invokevirtual 47, 3) := by decide +kernel
theorem dXL_law_459 : decode code 459 = .ok (.if_icmp .eq 945, 3) := by decide +kernel
theorem dXL_law_462 : decode code 462 = .ok (.iconst 0, 1) := by decide +kernel
theorem dXL_law_463 : decode code 463 = .ok (.ireturn, 1) := by decide +kernel
theorem dXL_law_464 : decode code 464 = .ok (.aload_n 1, 1) := by decide +kernel
theorem dXL_law_465 : decode code 465 = .ok (.aload_n 0, 1) := by decide +kernel
theorem dXL_law_466 : decode code 466 = .ok (.iload_n 3, 1) := by decide +kernel
theorem dXL_law_467 : decode code 467 = .ok (.iconst 1, 1) := by decide +kernel
theorem dXL_law_468 : decode code 468 = .ok (.iadd, 1) := by decide +kernel
theorem dXL_law_469 : decode code 469 = .ok (.iaload, 1) := by decide +kernel
theorem dXL_law_470 : decode code 470 = .ok (.i2l, 1) := by decide +kernel
theorem dXL_law_471 : decode code 471 = .ok (.bipush 32, 2) := by decide +kernel
theorem dXL_law_473 : decode code 473 = .ok (.lshl, 1) := by decide +kernel
theorem dXL_law_474 : decode code 474 = .ok (.aload_n 0, 1) := by decide +kernel
theorem dXL_law_475 : decode code 475 = .ok (.iload_n 3, 1) := by decide +kernel
theorem dXL_law_476 : decode code 476 = .ok (.iconst 2, 1) := by decide +kernel
theorem dXL_law_477 : decode code 477 = .ok (.iadd, 1) := by decide +kernel
theorem dXL_law_478 : decode code 478 = .ok (.iaload, 1) := by decide +kernel
theorem dXL_law_479 : decode code 479 = .ok (.i2l, 1) := by decide +kernel
theorem dXL_law_480 : decode code 480 = .ok (.ldc2_w 48, 3) := by decide +kernel
theorem dXL_law_483 : decode code 483 = .ok (.land, 1) := by decide +kernel
theorem dXL_law_484 : decode code 484 = .ok (.lor, 1) := by decide +kernel
theorem dXL_law_485 : decode code 485 = .ok (.aload_n 0, 1) := by decide +kernel
theorem dXL_law_486 : decode code 486 = .ok (.iload_n 3, 1) := by decide +kernel
theorem dXL_law_487 : decode code 487 = .ok (.iconst 3, 1) := by decide +kernel
theorem dXL_law_488 : decode code 488 = .ok (.iadd, 1) := by decide +kernel
theorem dXL_law_489 : decode code 489 = .ok (.iaload, 1) := by decide +kernel
theorem dXL_law_490 : decode code 490 = .ok (.invokevirtual 50, 3) := by decide +kernel
theorem dXL_law_493 : decode code 493 = .ok (.aload_n 2, 1) := by decide +kernel
theorem dXL_law_494 : decode code 494 = .ok (.aload_n 0, 1) := by decide +kernel
theorem dXL_law_495 : decode code 495 = .ok (.iload_n 3, 1) := by decide +kernel
theorem dXL_law_496 : decode code 496 = .ok (.iconst 1, 1) := by decide +kernel
theorem dXL_law_497 : decode code 497 = .ok (.iadd, 1) := by decide +kernel
theorem dXL_law_498 : decode code 498 = .ok (.iaload, 1) := by decide +kernel
theorem dXL_law_499 : decode code 499 = .ok (.i2l, 1) := by decide +kernel
theorem dXL_law_500 : decode code 500 = .ok (.bipush 32, 2) := by decide +kernel
theorem dXL_law_502 : decode code 502 = .ok (.lshl, 1) := by decide +kernel
theorem dXL_law_503 : decode code 503 = .ok (.aload_n 0, 1) := by decide +kernel
theorem dXL_law_504 : decode code 504 = .ok (.iload_n 3, 1) := by decide +kernel
theorem dXL_law_505 : decode code 505 = .ok (.iconst 2, 1) := by decide +kernel
theorem dXL_law_506 : decode code 506 = .ok (.iadd, 1) := by decide +kernel
theorem dXL_law_507 : decode code 507 = .ok (.iaload, 1) := by decide +kernel
theorem dXL_law_508 : decode code 508 = .ok (.i2l, 1) := by decide +kernel
theorem dXL_law_509 : decode code 509 = .ok (.ldc2_w 48, 3) := by decide +kernel
theorem dXL_law_512 : decode code 512 = .ok (.land, 1) := by decide +kernel
theorem dXL_law_513 : decode code 513 = .ok (.lor, 1) := by decide +kernel
theorem dXL_law_514 : decode code 514 = .ok (.aload_n 0, 1) := by decide +kernel
theorem dXL_law_515 : decode code 515 = .ok (.iload_n 3, 1) := by decide +kernel
theorem dXL_law_516 : decode code 516 = .ok (.iconst 3, 1) := by decide +kernel
theorem dXL_law_517 : decode code 517 = .ok (.iadd, 1) := by decide +kernel
theorem dXL_law_518 : decode code 518 = .ok (.iaload, 1) := by decide +kernel
theorem dXL_law_519 : decode code 519 = .ok (.invokevirtual 54, 3) := by decide +kernel
theorem dXL_law_522 : decode code 522 = .ok (.if_icmp .eq 882, 3) := by decide +kernel
theorem dXL_law_525 : decode code 525 = .ok (.iconst 0, 1) := by decide +kernel
theorem dXL_law_526 : decode code 526 = .ok (.ireturn, 1) := by decide +kernel
theorem dXL_law_527 : decode code 527 = .ok (.aload_n 1, 1) := by decide +kernel
theorem dXL_law_528 : decode code 528 = .ok (.aload_n 0, 1) := by decide +kernel
theorem dXL_law_529 : decode code 529 = .ok (.iload_n 3, 1) := by decide +kernel
theorem dXL_law_530 : decode code 530 = .ok (.iconst 1, 1) := by decide +kernel
theorem dXL_law_531 : decode code 531 = .ok (.iadd, 1) := by decide +kernel
theorem dXL_law_532 : decode code 532 = .ok (.iaload, 1) := by decide +kernel
theorem dXL_law_533 : decode code 533 = .ok (.invokevirtual 55, 3) := by decide +kernel
theorem dXL_law_536 : decode code 536 = .ok (.aload_n 2, 1) := by decide +kernel
theorem dXL_law_537 : decode code 537 = .ok (.aload_n 0, 1) := by decide +kernel
theorem dXL_law_538 : decode code 538 = .ok (.iload_n 3, 1) := by decide +kernel
theorem dXL_law_539 : decode code 539 = .ok (.iconst 1, 1) := by decide +kernel
theorem dXL_law_540 : decode code 540 = .ok (.iadd, 1) := by decide +kernel
theorem dXL_law_541 : decode code 541 = .ok (.iaload, 1) := by decide +kernel
theorem dXL_law_542 : decode code 542 = .ok (.invokevirtual 58, 3) := by decide +kernel
theorem dXL_law_545 : decode code 545 = .ok (.if_icmp .eq 859, 3) := by decide +kernel
theorem dXL_law_548 : decode code 548 = .ok (.iconst 0, 1) := by decide +kernel
theorem dXL_law_549 : decode code 549 = .ok (.ireturn, 1) := by decide +kernel
theorem dXL_law_550 : decode code 550 = .ok (.aload_n 1, 1) := by decide +kernel
theorem dXL_law_551 : decode code 551 = .ok (.aload_n 0, 1) := by decide +kernel
theorem dXL_law_552 : decode code 552 = .ok (.iload_n 3, 1) := by decide +kernel
theorem dXL_law_553 : decode code 553 = .ok (.iconst 1, 1) := by decide +kernel
theorem dXL_law_554 : decode code 554 = .ok (.iadd, 1) := by decide +kernel
theorem dXL_law_555 : decode code 555 = .ok (.iaload, 1) := by decide +kernel
theorem dXL_law_556 : decode code 556 = .ok (.invokevirtual 59, 3) := by decide +kernel
theorem dXL_law_559 : decode code 559 = .ok (.aload_n 2, 1) := by decide +kernel
theorem dXL_law_560 : decode code 560 = .ok (.aload_n 0, 1) := by decide +kernel
theorem dXL_law_561 : decode code 561 = .ok (.iload_n 3, 1) := by decide +kernel
theorem dXL_law_562 : decode code 562 = .ok (.iconst 1, 1) := by decide +kernel
theorem dXL_law_563 : decode code 563 = .ok (.iadd, 1) := by decide +kernel
theorem dXL_law_564 : decode code 564 = .ok (.iaload, 1) := by decide +kernel
theorem dXL_law_565 : decode code 565 = .ok (.invokevirtual 62, 3) := by decide +kernel
theorem dXL_law_568 : decode code 568 = .ok (.if_icmp .eq 836, 3) := by decide +kernel
theorem dXL_law_571 : decode code 571 = .ok (.iconst 0, 1) := by decide +kernel
theorem dXL_law_572 : decode code 572 = .ok (.ireturn, 1) := by decide +kernel
theorem dXL_law_573 : decode code 573 = .ok (.aload_n 1, 1) := by decide +kernel
theorem dXL_law_574 : decode code 574 = .ok (.aload_n 0, 1) := by decide +kernel
theorem dXL_law_575 : decode code 575 = .ok (.iload_n 3, 1) := by decide +kernel
theorem dXL_law_576 : decode code 576 = .ok (.iconst 1, 1) := by decide +kernel
theorem dXL_law_577 : decode code 577 = .ok (.iadd, 1) := by decide +kernel
theorem dXL_law_578 : decode code 578 = .ok (.iaload, 1) := by decide +kernel
theorem dXL_law_579 : decode code 579 = .ok (.aload_n 0, 1) := by decide +kernel
theorem dXL_law_580 : decode code 580 = .ok (.iload_n 3, 1) := by decide +kernel
theorem dXL_law_581 : decode code 581 = .ok (.iconst 2, 1) := by decide +kernel
theorem dXL_law_582 : decode code 582 = .ok (.iadd, 1) := by decide +kernel
theorem dXL_law_583 : decode code 583 = .ok (.iaload, 1) := by decide +kernel
theorem dXL_law_584 : decode code 584 = .ok (.invokevirtual 63, 3) := by decide +kernel
theorem dXL_law_587 : decode code 587 = .ok (.aload_n 2, 1) := by decide +kernel
theorem dXL_law_588 : decode code 588 = .ok (.aload_n 0, 1) := by decide +kernel
theorem dXL_law_589 : decode code 589 = .ok (.iload_n 3, 1) := by decide +kernel
theorem dXL_law_590 : decode code 590 = .ok (.iconst 1, 1) := by decide +kernel
theorem dXL_law_591 : decode code 591 = .ok (.iadd, 1) := by decide +kernel
theorem dXL_law_592 : decode code 592 = .ok (.iaload, 1) := by decide +kernel
theorem dXL_law_593 : decode code 593 = .ok (.aload_n 0, 1) := by decide +kernel
theorem dXL_law_594 : decode code 594 = .ok (.iload_n 3, 1) := by decide +kernel
theorem dXL_law_595 : decode code 595 = .ok (.iconst 2, 1) := by decide +kernel
theorem dXL_law_596 : decode code 596 = .ok (.iadd, 1) := by decide +kernel
theorem dXL_law_597 : decode code 597 = .ok (.iaload, 1) := by decide +kernel
theorem dXL_law_598 : decode code 598 = .ok (.invokevirtual 66, 3) := by decide +kernel
theorem dXL_law_601 : decode code 601 = .ok (.if_icmp .eq 803, 3) := by decide +kernel
theorem dXL_law_604 : decode code 604 = .ok (.iconst 0, 1) := by decide +kernel
theorem dXL_law_605 : decode code 605 = .ok (.ireturn, 1) := by decide +kernel
theorem dXL_law_606 : decode code 606 = .ok (.aload_n 1, 1) := by decide +kernel
theorem dXL_law_607 : decode code 607 = .ok (.aload_n 0, 1) := by decide +kernel
theorem dXL_law_608 : decode code 608 = .ok (.iload_n 3, 1) := by decide +kernel
theorem dXL_law_609 : decode code 609 = .ok (.iconst 1, 1) := by decide +kernel
theorem dXL_law_610 : decode code 610 = .ok (.iadd, 1) := by decide +kernel
theorem dXL_law_611 : decode code 611 = .ok (.iaload, 1) := by decide +kernel
theorem dXL_law_612 : decode code 612 = .ok (.invokevirtual 67, 3) := by decide +kernel
theorem dXL_law_615 : decode code 615 = .ok (.aload_n 2, 1) := by decide +kernel
theorem dXL_law_616 : decode code 616 = .ok (.aload_n 0, 1) := by decide +kernel
theorem dXL_law_617 : decode code 617 = .ok (.iload_n 3, 1) := by decide +kernel
theorem dXL_law_618 : decode code 618 = .ok (.iconst 1, 1) := by decide +kernel
theorem dXL_law_619 : decode code 619 = .ok (.iadd, 1) := by decide +kernel
theorem dXL_law_620 : decode code 620 = .ok (.iaload, 1) := by decide +kernel
theorem dXL_law_621 : decode code 621 = .ok (.invokevirtual 70, 3) := by decide +kernel
theorem dXL_law_624 : decode code 624 = .ok (.if_icmp .eq 780, 3) := by decide +kernel
theorem dXL_law_627 : decode code 627 = .ok (.iconst 0, 1) := by decide +kernel
theorem dXL_law_628 : decode code 628 = .ok (.ireturn, 1) := by decide +kernel
theorem dXL_law_629 : decode code 629 = .ok (.aload_n 1, 1) := by decide +kernel
theorem dXL_law_630 : decode code 630 = .ok (.aload_n 0, 1) := by decide +kernel
theorem dXL_law_631 : decode code 631 = .ok (.iload_n 3, 1) := by decide +kernel
theorem dXL_law_632 : decode code 632 = .ok (.iconst 1, 1) := by decide +kernel
theorem dXL_law_633 : decode code 633 = .ok (.iadd, 1) := by decide +kernel
theorem dXL_law_634 : decode code 634 = .ok (.iaload, 1) := by decide +kernel
theorem dXL_law_635 : decode code 635 = .ok (.invokevirtual 71, 3) := by decide +kernel
theorem dXL_law_638 : decode code 638 = .ok (.aload_n 2, 1) := by decide +kernel
theorem dXL_law_639 : decode code 639 = .ok (.aload_n 0, 1) := by decide +kernel
theorem dXL_law_640 : decode code 640 = .ok (.iload_n 3, 1) := by decide +kernel
theorem dXL_law_641 : decode code 641 = .ok (.iconst 1, 1) := by decide +kernel
theorem dXL_law_642 : decode code 642 = .ok (.iadd, 1) := by decide +kernel
theorem dXL_law_643 : decode code 643 = .ok (.iaload, 1) := by decide +kernel
theorem dXL_law_644 : decode code 644 = .ok (.invokevirtual 74, 3) := by decide +kernel
theorem dXL_law_647 : decode code 647 = .ok (.if_icmp .eq 757, 3) := by decide +kernel
theorem dXL_law_650 : decode code 650 = .ok (.iconst 0, 1) := by decide +kernel
theorem dXL_law_651 : decode code 651 = .ok (.ireturn, 1) := by decide +kernel
theorem dXL_law_652 : decode code 652 = .ok (.aload_n 1, 1) := by decide +kernel
theorem dXL_law_653 : decode code 653 = .ok (.aload_n 0, 1) := by decide +kernel
theorem dXL_law_654 : decode code 654 = .ok (.iload_n 3, 1) := by decide +kernel
theorem dXL_law_655 : decode code 655 = .ok (.iconst 1, 1) := by decide +kernel
theorem dXL_law_656 : decode code 656 = .ok (.iadd, 1) := by decide +kernel
theorem dXL_law_657 : decode code 657 = .ok (.iaload, 1) := by decide +kernel
theorem dXL_law_658 : decode code 658 = .ok (.invokevirtual 75, 3) := by decide +kernel
theorem dXL_law_661 : decode code 661 = .ok (.aload_n 2, 1) := by decide +kernel
theorem dXL_law_662 : decode code 662 = .ok (.aload_n 0, 1) := by decide +kernel
theorem dXL_law_663 : decode code 663 = .ok (.iload_n 3, 1) := by decide +kernel
theorem dXL_law_664 : decode code 664 = .ok (.iconst 1, 1) := by decide +kernel
theorem dXL_law_665 : decode code 665 = .ok (.iadd, 1) := by decide +kernel
theorem dXL_law_666 : decode code 666 = .ok (.iaload, 1) := by decide +kernel
theorem dXL_law_667 : decode code 667 = .ok (.invokevirtual 78, 3) := by decide +kernel
theorem dXL_law_670 : decode code 670 = .ok (.if_icmp .eq 734, 3) := by decide +kernel
theorem dXL_law_673 : decode code 673 = .ok (.iconst 0, 1) := by decide +kernel
theorem dXL_law_674 : decode code 674 = .ok (.ireturn, 1) := by decide +kernel
theorem dXL_law_675 : decode code 675 = .ok (.aload_n 1, 1) := by decide +kernel
theorem dXL_law_676 : decode code 676 = .ok (.aload_n 0, 1) := by decide +kernel
theorem dXL_law_677 : decode code 677 = .ok (.iload_n 3, 1) := by decide +kernel
theorem dXL_law_678 : decode code 678 = .ok (.iconst 1, 1) := by decide +kernel
theorem dXL_law_679 : decode code 679 = .ok (.iadd, 1) := by decide +kernel
theorem dXL_law_680 : decode code 680 = .ok (.iaload, 1) := by decide +kernel
theorem dXL_law_681 : decode code 681 = .ok (.invokevirtual 79, 3) := by decide +kernel
theorem dXL_law_684 : decode code 684 = .ok (.aload_n 2, 1) := by decide +kernel
theorem dXL_law_685 : decode code 685 = .ok (.aload_n 0, 1) := by decide +kernel
theorem dXL_law_686 : decode code 686 = .ok (.iload_n 3, 1) := by decide +kernel
theorem dXL_law_687 : decode code 687 = .ok (.iconst 1, 1) := by decide +kernel
theorem dXL_law_688 : decode code 688 = .ok (.iadd, 1) := by decide +kernel
theorem dXL_law_689 : decode code 689 = .ok (.iaload, 1) := by decide +kernel
theorem dXL_law_690 : decode code 690 = .ok (.invokevirtual 82, 3) := by decide +kernel
theorem dXL_law_693 : decode code 693 = .ok (.if_icmp .eq 711, 3) := by decide +kernel
theorem dXL_law_696 : decode code 696 = .ok (.iconst 0, 1) := by decide +kernel
theorem dXL_law_697 : decode code 697 = .ok (.ireturn, 1) := by decide +kernel
theorem dXL_law_698 : decode code 698 = .ok (.aload_n 1, 1) := by decide +kernel
theorem dXL_law_699 : decode code 699 = .ok (.aload_n 0, 1) := by decide +kernel
theorem dXL_law_700 : decode code 700 = .ok (.iload_n 3, 1) := by decide +kernel
theorem dXL_law_701 : decode code 701 = .ok (.iconst 1, 1) := by decide +kernel
theorem dXL_law_702 : decode code 702 = .ok (.iadd, 1) := by decide +kernel
theorem dXL_law_703 : decode code 703 = .ok (.iaload, 1) := by decide +kernel
theorem dXL_law_704 : decode code 704 = .ok (.aload_n 0, 1) := by decide +kernel
theorem dXL_law_705 : decode code 705 = .ok (.iload_n 3, 1) := by decide +kernel
theorem dXL_law_706 : decode code 706 = .ok (.iconst 2, 1) := by decide +kernel
theorem dXL_law_707 : decode code 707 = .ok (.iadd, 1) := by decide +kernel
theorem dXL_law_708 : decode code 708 = .ok (.iaload, 1) := by decide +kernel
theorem dXL_law_709 : decode code 709 = .ok (.aload_n 0, 1) := by decide +kernel
theorem dXL_law_710 : decode code 710 = .ok (.iload_n 3, 1) := by decide +kernel
theorem dXL_law_711 : decode code 711 = .ok (.iconst 3, 1) := by decide +kernel
theorem dXL_law_712 : decode code 712 = .ok (.iadd, 1) := by decide +kernel
theorem dXL_law_713 : decode code 713 = .ok (.iaload, 1) := by decide +kernel
theorem dXL_law_714 : decode code 714 = .ok (.invokevirtual 83, 3) := by decide +kernel
theorem dXL_law_717 : decode code 717 = .ok (.aload_n 2, 1) := by decide +kernel
theorem dXL_law_718 : decode code 718 = .ok (.aload_n 0, 1) := by decide +kernel
theorem dXL_law_719 : decode code 719 = .ok (.iload_n 3, 1) := by decide +kernel
theorem dXL_law_720 : decode code 720 = .ok (.iconst 1, 1) := by decide +kernel
theorem dXL_law_721 : decode code 721 = .ok (.iadd, 1) := by decide +kernel
theorem dXL_law_722 : decode code 722 = .ok (.iaload, 1) := by decide +kernel
theorem dXL_law_723 : decode code 723 = .ok (.aload_n 0, 1) := by decide +kernel
theorem dXL_law_724 : decode code 724 = .ok (.iload_n 3, 1) := by decide +kernel
theorem dXL_law_725 : decode code 725 = .ok (.iconst 2, 1) := by decide +kernel
theorem dXL_law_726 : decode code 726 = .ok (.iadd, 1) := by decide +kernel
theorem dXL_law_727 : decode code 727 = .ok (.iaload, 1) := by decide +kernel
theorem dXL_law_728 : decode code 728 = .ok (.aload_n 0, 1) := by decide +kernel
theorem dXL_law_729 : decode code 729 = .ok (.iload_n 3, 1) := by decide +kernel
theorem dXL_law_730 : decode code 730 = .ok (.iconst 3, 1) := by decide +kernel
theorem dXL_law_731 : decode code 731 = .ok (.iadd, 1) := by decide +kernel
theorem dXL_law_732 : decode code 732 = .ok (.iaload, 1) := by decide +kernel
theorem dXL_law_733 : decode code 733 = .ok (.invokevirtual 86, 3) := by decide +kernel
theorem dXL_law_736 : decode code 736 = .ok (.if_icmp .eq 668, 3) := by decide +kernel
theorem dXL_law_739 : decode code 739 = .ok (.iconst 0, 1) := by decide +kernel
theorem dXL_law_740 : decode code 740 = .ok (.ireturn, 1) := by decide +kernel
theorem dXL_law_741 : decode code 741 = .ok (.aload_n 1, 1) := by decide +kernel
theorem dXL_law_742 : decode code 742 = .ok (.aload_n 0, 1) := by decide +kernel
theorem dXL_law_743 : decode code 743 = .ok (.iload_n 3, 1) := by decide +kernel
theorem dXL_law_744 : decode code 744 = .ok (.iconst 1, 1) := by decide +kernel
theorem dXL_law_745 : decode code 745 = .ok (.iadd, 1) := by decide +kernel
theorem dXL_law_746 : decode code 746 = .ok (.iaload, 1) := by decide +kernel
theorem dXL_law_747 : decode code 747 = .ok (.aload_n 0, 1) := by decide +kernel
theorem dXL_law_748 : decode code 748 = .ok (.iload_n 3, 1) := by decide +kernel
theorem dXL_law_749 : decode code 749 = .ok (.iconst 2, 1) := by decide +kernel
theorem dXL_law_750 : decode code 750 = .ok (.iadd, 1) := by decide +kernel
theorem dXL_law_751 : decode code 751 = .ok (.iaload, 1) := by decide +kernel
theorem dXL_law_752 : decode code 752 = .ok (.invokevirtual 87, 3) := by decide +kernel
theorem dXL_law_755 : decode code 755 = .ok (.aload_n 2, 1) := by decide +kernel
theorem dXL_law_756 : decode code 756 = .ok (.aload_n 0, 1) := by decide +kernel
theorem dXL_law_757 : decode code 757 = .ok (.iload_n 3, 1) := by decide +kernel
theorem dXL_law_758 : decode code 758 = .ok (.iconst 1, 1) := by decide +kernel
theorem dXL_law_759 : decode code 759 = .ok (.iadd, 1) := by decide +kernel
theorem dXL_law_760 : decode code 760 = .ok (.iaload, 1) := by decide +kernel
theorem dXL_law_761 : decode code 761 = .ok (.aload_n 0, 1) := by decide +kernel
theorem dXL_law_762 : decode code 762 = .ok (.iload_n 3, 1) := by decide +kernel
theorem dXL_law_763 : decode code 763 = .ok (.iconst 2, 1) := by decide +kernel
theorem dXL_law_764 : decode code 764 = .ok (.iadd, 1) := by decide +kernel
theorem dXL_law_765 : decode code 765 = .ok (.iaload, 1) := by decide +kernel
theorem dXL_law_766 : decode code 766 = .ok (.invokevirtual 90, 3) := by decide +kernel
theorem dXL_law_769 : decode code 769 = .ok (.if_icmp .eq 635, 3) := by decide +kernel
theorem dXL_law_772 : decode code 772 = .ok (.iconst 0, 1) := by decide +kernel
theorem dXL_law_773 : decode code 773 = .ok (.ireturn, 1) := by decide +kernel
theorem dXL_law_774 : decode code 774 = .ok (.aload_n 1, 1) := by decide +kernel
theorem dXL_law_775 : decode code 775 = .ok (.aload_n 0, 1) := by decide +kernel
theorem dXL_law_776 : decode code 776 = .ok (.iload_n 3, 1) := by decide +kernel
theorem dXL_law_777 : decode code 777 = .ok (.iconst 1, 1) := by decide +kernel
theorem dXL_law_778 : decode code 778 = .ok (.iadd, 1) := by decide +kernel
theorem dXL_law_779 : decode code 779 = .ok (.iaload, 1) := by decide +kernel
theorem dXL_law_780 : decode code 780 = .ok (.invokevirtual 91, 3) := by decide +kernel
theorem dXL_law_783 : decode code 783 = .ok (.aload_n 2, 1) := by decide +kernel
theorem dXL_law_784 : decode code 784 = .ok (.aload_n 0, 1) := by decide +kernel
theorem dXL_law_785 : decode code 785 = .ok (.iload_n 3, 1) := by decide +kernel
theorem dXL_law_786 : decode code 786 = .ok (.iconst 1, 1) := by decide +kernel
theorem dXL_law_787 : decode code 787 = .ok (.iadd, 1) := by decide +kernel
theorem dXL_law_788 : decode code 788 = .ok (.iaload, 1) := by decide +kernel
theorem dXL_law_789 : decode code 789 = .ok (.invokevirtual 94, 3) := by decide +kernel
theorem dXL_law_792 : decode code 792 = .ok (.if_icmp .eq 612, 3) := by decide +kernel
theorem dXL_law_795 : decode code 795 = .ok (.iconst 0, 1) := by decide +kernel
theorem dXL_law_796 : decode code 796 = .ok (.ireturn, 1) := by decide +kernel
theorem dXL_law_797 : decode code 797 = .ok (.aload_n 1, 1) := by decide +kernel
theorem dXL_law_798 : decode code 798 = .ok (.aload_n 0, 1) := by decide +kernel
theorem dXL_law_799 : decode code 799 = .ok (.iload_n 3, 1) := by decide +kernel
theorem dXL_law_800 : decode code 800 = .ok (.iconst 1, 1) := by decide +kernel
theorem dXL_law_801 : decode code 801 = .ok (.iadd, 1) := by decide +kernel
theorem dXL_law_802 : decode code 802 = .ok (.iaload, 1) := by decide +kernel
theorem dXL_law_803 : decode code 803 = .ok (.aload_n 0, 1) := by decide +kernel
theorem dXL_law_804 : decode code 804 = .ok (.iload_n 3, 1) := by decide +kernel
theorem dXL_law_805 : decode code 805 = .ok (.iconst 2, 1) := by decide +kernel
theorem dXL_law_806 : decode code 806 = .ok (.iadd, 1) := by decide +kernel
theorem dXL_law_807 : decode code 807 = .ok (.iaload, 1) := by decide +kernel
theorem dXL_law_808 : decode code 808 = .ok (.invokevirtual 95, 3) := by decide +kernel
theorem dXL_law_811 : decode code 811 = .ok (.aload_n 2, 1) := by decide +kernel
theorem dXL_law_812 : decode code 812 = .ok (.aload_n 0, 1) := by decide +kernel
theorem dXL_law_813 : decode code 813 = .ok (.iload_n 3, 1) := by decide +kernel
theorem dXL_law_814 : decode code 814 = .ok (.iconst 1, 1) := by decide +kernel
theorem dXL_law_815 : decode code 815 = .ok (.iadd, 1) := by decide +kernel
theorem dXL_law_816 : decode code 816 = .ok (.iaload, 1) := by decide +kernel
theorem dXL_law_817 : decode code 817 = .ok (.aload_n 0, 1) := by decide +kernel
theorem dXL_law_818 : decode code 818 = .ok (.iload_n 3, 1) := by decide +kernel
theorem dXL_law_819 : decode code 819 = .ok (.iconst 2, 1) := by decide +kernel
theorem dXL_law_820 : decode code 820 = .ok (.iadd, 1) := by decide +kernel
theorem dXL_law_821 : decode code 821 = .ok (.iaload, 1) := by decide +kernel
theorem dXL_law_822 : decode code 822 = .ok (.invokevirtual 98, 3) := by decide +kernel
theorem dXL_law_825 : decode code 825 = .ok (.if_icmp .eq 579, 3) := by decide +kernel
theorem dXL_law_828 : decode code 828 = .ok (.iconst 0, 1) := by decide +kernel
theorem dXL_law_829 : decode code 829 = .ok (.ireturn, 1) := by decide +kernel
theorem dXL_law_830 : decode code 830 = .ok (.aload_n 1, 1) := by decide +kernel
theorem dXL_law_831 : decode code 831 = .ok (.aload_n 0, 1) := by decide +kernel
theorem dXL_law_832 : decode code 832 = .ok (.iload_n 3, 1) := by decide +kernel
theorem dXL_law_833 : decode code 833 = .ok (.iconst 1, 1) := by decide +kernel
theorem dXL_law_834 : decode code 834 = .ok (.iadd, 1) := by decide +kernel
theorem dXL_law_835 : decode code 835 = .ok (.iaload, 1) := by decide +kernel
theorem dXL_law_836 : decode code 836 = .ok (.aload_n 0, 1) := by decide +kernel
theorem dXL_law_837 : decode code 837 = .ok (.iload_n 3, 1) := by decide +kernel
theorem dXL_law_838 : decode code 838 = .ok (.iconst 2, 1) := by decide +kernel
theorem dXL_law_839 : decode code 839 = .ok (.iadd, 1) := by decide +kernel
theorem dXL_law_840 : decode code 840 = .ok (.iaload, 1) := by decide +kernel
theorem dXL_law_841 : decode code 841 = .ok (.aload_n 0, 1) := by decide +kernel
theorem dXL_law_842 : decode code 842 = .ok (.iload_n 3, 1) := by decide +kernel
theorem dXL_law_843 : decode code 843 = .ok (.iconst 3, 1) := by decide +kernel
theorem dXL_law_844 : decode code 844 = .ok (.iadd, 1) := by decide +kernel
theorem dXL_law_845 : decode code 845 = .ok (.iaload, 1) := by decide +kernel
theorem dXL_law_846 : decode code 846 = .ok (.invokevirtual 99, 3) := by decide +kernel
theorem dXL_law_849 : decode code 849 = .ok (.aload_n 2, 1) := by decide +kernel
theorem dXL_law_850 : decode code 850 = .ok (.aload_n 0, 1) := by decide +kernel
theorem dXL_law_851 : decode code 851 = .ok (.iload_n 3, 1) := by decide +kernel
theorem dXL_law_852 : decode code 852 = .ok (.iconst 1, 1) := by decide +kernel
theorem dXL_law_853 : decode code 853 = .ok (.iadd, 1) := by decide +kernel
theorem dXL_law_854 : decode code 854 = .ok (.iaload, 1) := by decide +kernel
theorem dXL_law_855 : decode code 855 = .ok (.aload_n 0, 1) := by decide +kernel
theorem dXL_law_856 : decode code 856 = .ok (.iload_n 3, 1) := by decide +kernel
theorem dXL_law_857 : decode code 857 = .ok (.iconst 2, 1) := by decide +kernel
theorem dXL_law_858 : decode code 858 = .ok (.iadd, 1) := by decide +kernel
theorem dXL_law_859 : decode code 859 = .ok (.iaload, 1) := by decide +kernel
theorem dXL_law_860 : decode code 860 = .ok (.aload_n 0, 1) := by decide +kernel
theorem dXL_law_861 : decode code 861 = .ok (.iload_n 3, 1) := by decide +kernel
theorem dXL_law_862 : decode code 862 = .ok (.iconst 3, 1) := by decide +kernel
theorem dXL_law_863 : decode code 863 = .ok (.iadd, 1) := by decide +kernel
theorem dXL_law_864 : decode code 864 = .ok (.iaload, 1) := by decide +kernel
theorem dXL_law_865 : decode code 865 = .ok (.invokevirtual 102, 3) := by decide +kernel
theorem dXL_law_868 : decode code 868 = .ok (.if_icmp .eq 536, 3) := by decide +kernel
theorem dXL_law_871 : decode code 871 = .ok (.iconst 0, 1) := by decide +kernel
theorem dXL_law_872 : decode code 872 = .ok (.ireturn, 1) := by decide +kernel
theorem dXL_law_873 : decode code 873 = .ok (.aload_n 1, 1) := by decide +kernel
theorem dXL_law_874 : decode code 874 = .ok (.aload_n 0, 1) := by decide +kernel
theorem dXL_law_875 : decode code 875 = .ok (.iload_n 3, 1) := by decide +kernel
theorem dXL_law_876 : decode code 876 = .ok (.iconst 1, 1) := by decide +kernel
theorem dXL_law_877 : decode code 877 = .ok (.iadd, 1) := by decide +kernel
theorem dXL_law_878 : decode code 878 = .ok (.iaload, 1) := by decide +kernel
theorem dXL_law_879 : decode code 879 = .ok (.aload_n 0, 1) := by decide +kernel
theorem dXL_law_880 : decode code 880 = .ok (.iload_n 3, 1) := by decide +kernel
theorem dXL_law_881 : decode code 881 = .ok (.iconst 2, 1) := by decide +kernel
theorem dXL_law_882 : decode code 882 = .ok (.iadd, 1) := by decide +kernel
theorem dXL_law_883 : decode code 883 = .ok (.iaload, 1) := by decide +kernel
theorem dXL_law_884 : decode code 884 = .ok (.aload_n 0, 1) := by decide +kernel
theorem dXL_law_885 : decode code 885 = .ok (.iload_n 3, 1) := by decide +kernel
theorem dXL_law_886 : decode code 886 = .ok (.iconst 3, 1) := by decide +kernel
theorem dXL_law_887 : decode code 887 = .ok (.iadd, 1) := by decide +kernel
theorem dXL_law_888 : decode code 888 = .ok (.iaload, 1) := by decide +kernel
theorem dXL_law_889 : decode code 889 = .ok (.invokevirtual 103, 3) := by decide +kernel
theorem dXL_law_892 : decode code 892 = .ok (.aload_n 2, 1) := by decide +kernel
theorem dXL_law_893 : decode code 893 = .ok (.aload_n 0, 1) := by decide +kernel
theorem dXL_law_894 : decode code 894 = .ok (.iload_n 3, 1) := by decide +kernel
theorem dXL_law_895 : decode code 895 = .ok (.iconst 1, 1) := by decide +kernel
theorem dXL_law_896 : decode code 896 = .ok (.iadd, 1) := by decide +kernel
theorem dXL_law_897 : decode code 897 = .ok (.iaload, 1) := by decide +kernel
theorem dXL_law_898 : decode code 898 = .ok (.aload_n 0, 1) := by decide +kernel
theorem dXL_law_899 : decode code 899 = .ok (.iload_n 3, 1) := by decide +kernel
theorem dXL_law_900 : decode code 900 = .ok (.iconst 2, 1) := by decide +kernel
theorem dXL_law_901 : decode code 901 = .ok (.iadd, 1) := by decide +kernel
theorem dXL_law_902 : decode code 902 = .ok (.iaload, 1) := by decide +kernel
theorem dXL_law_903 : decode code 903 = .ok (.aload_n 0, 1) := by decide +kernel
theorem dXL_law_904 : decode code 904 = .ok (.iload_n 3, 1) := by decide +kernel
theorem dXL_law_905 : decode code 905 = .ok (.iconst 3, 1) := by decide +kernel
theorem dXL_law_906 : decode code 906 = .ok (.iadd, 1) := by decide +kernel
theorem dXL_law_907 : decode code 907 = .ok (.iaload, 1) := by decide +kernel
theorem dXL_law_908 : decode code 908 = .ok (.invokevirtual 106, 3) := by decide +kernel
theorem dXL_law_911 : decode code 911 = .ok (.if_icmp .eq 493, 3) := by decide +kernel
theorem dXL_law_914 : decode code 914 = .ok (.iconst 0, 1) := by decide +kernel
theorem dXL_law_915 : decode code 915 = .ok (.ireturn, 1) := by decide +kernel
theorem dXL_law_916 : decode code 916 = .ok (.aload_n 1, 1) := by decide +kernel
theorem dXL_law_917 : decode code 917 = .ok (.aload_n 0, 1) := by decide +kernel
theorem dXL_law_918 : decode code 918 = .ok (.iload_n 3, 1) := by decide +kernel
theorem dXL_law_919 : decode code 919 = .ok (.iconst 1, 1) := by decide +kernel
theorem dXL_law_920 : decode code 920 = .ok (.iadd, 1) := by decide +kernel
theorem dXL_law_921 : decode code 921 = .ok (.iaload, 1) := by decide +kernel
theorem dXL_law_922 : decode code 922 = .ok (.aload_n 0, 1) := by decide +kernel
theorem dXL_law_923 : decode code 923 = .ok (.iload_n 3, 1) := by decide +kernel
theorem dXL_law_924 : decode code 924 = .ok (.iconst 2, 1) := by decide +kernel
theorem dXL_law_925 : decode code 925 = .ok (.iadd, 1) := by decide +kernel
theorem dXL_law_926 : decode code 926 = .ok (.iaload, 1) := by decide +kernel
theorem dXL_law_927 : decode code 927 = .ok (.invokevirtual 107, 3) := by decide +kernel
theorem dXL_law_930 : decode code 930 = .ok (.aload_n 2, 1) := by decide +kernel
theorem dXL_law_931 : decode code 931 = .ok (.aload_n 0, 1) := by decide +kernel
theorem dXL_law_932 : decode code 932 = .ok (.iload_n 3, 1) := by decide +kernel
theorem dXL_law_933 : decode code 933 = .ok (.iconst 1, 1) := by decide +kernel
theorem dXL_law_934 : decode code 934 = .ok (.iadd, 1) := by decide +kernel
theorem dXL_law_935 : decode code 935 = .ok (.iaload, 1) := by decide +kernel
theorem dXL_law_936 : decode code 936 = .ok (.aload_n 0, 1) := by decide +kernel
theorem dXL_law_937 : decode code 937 = .ok (.iload_n 3, 1) := by decide +kernel
theorem dXL_law_938 : decode code 938 = .ok (.iconst 2, 1) := by decide +kernel
theorem dXL_law_939 : decode code 939 = .ok (.iadd, 1) := by decide +kernel
theorem dXL_law_940 : decode code 940 = .ok (.iaload, 1) := by decide +kernel
theorem dXL_law_941 : decode code 941 = .ok (.invokevirtual 110, 3) := by decide +kernel
theorem dXL_law_944 : decode code 944 = .ok (.if_icmp .eq 460, 3) := by decide +kernel
theorem dXL_law_947 : decode code 947 = .ok (.iconst 0, 1) := by decide +kernel
theorem dXL_law_948 : decode code 948 = .ok (.ireturn, 1) := by decide +kernel
theorem dXL_law_949 : decode code 949 = .ok (.aload_n 1, 1) := by decide +kernel
theorem dXL_law_950 : decode code 950 = .ok (.aload_n 0, 1) := by decide +kernel
theorem dXL_law_951 : decode code 951 = .ok (.iload_n 3, 1) := by decide +kernel
theorem dXL_law_952 : decode code 952 = .ok (.iconst 1, 1) := by decide +kernel
theorem dXL_law_953 : decode code 953 = .ok (.iadd, 1) := by decide +kernel
theorem dXL_law_954 : decode code 954 = .ok (.iaload, 1) := by decide +kernel
theorem dXL_law_955 : decode code 955 = .ok (.aload_n 0, 1) := by decide +kernel
theorem dXL_law_956 : decode code 956 = .ok (.iload_n 3, 1) := by decide +kernel
theorem dXL_law_957 : decode code 957 = .ok (.iconst 2, 1) := by decide +kernel
theorem dXL_law_958 : decode code 958 = .ok (.iadd, 1) := by decide +kernel
theorem dXL_law_959 : decode code 959 = .ok (.iaload, 1) := by decide +kernel
theorem dXL_law_960 : decode code 960 = .ok (.invokevirtual 111, 3) := by decide +kernel
theorem dXL_law_963 : decode code 963 = .ok (.aload_n 2, 1) := by decide +kernel
theorem dXL_law_964 : decode code 964 = .ok (.aload_n 0, 1) := by decide +kernel
theorem dXL_law_965 : decode code 965 = .ok (.iload_n 3, 1) := by decide +kernel
theorem dXL_law_966 : decode code 966 = .ok (.iconst 1, 1) := by decide +kernel
theorem dXL_law_967 : decode code 967 = .ok (.iadd, 1) := by decide +kernel
theorem dXL_law_968 : decode code 968 = .ok (.iaload, 1) := by decide +kernel
theorem dXL_law_969 : decode code 969 = .ok (.aload_n 0, 1) := by decide +kernel
theorem dXL_law_970 : decode code 970 = .ok (.iload_n 3, 1) := by decide +kernel
theorem dXL_law_971 : decode code 971 = .ok (.iconst 2, 1) := by decide +kernel
theorem dXL_law_972 : decode code 972 = .ok (.iadd, 1) := by decide +kernel
theorem dXL_law_973 : decode code 973 = .ok (.iaload, 1) := by decide +kernel
theorem dXL_law_974 : decode code 974 = .ok (.invokevirtual 114, 3) := by decide +kernel
theorem dXL_law_977 : decode code 977 = .ok (.if_icmp .eq 427, 3) := by decide +kernel
theorem dXL_law_980 : decode code 980 = .ok (.iconst 0, 1) := by decide +kernel
theorem dXL_law_981 : decode code 981 = .ok (.ireturn, 1) := by decide +kernel
theorem dXL_law_982 : decode code 982 = .ok (.aload_n 1, 1) := by decide +kernel
theorem dXL_law_983 : decode code 983 = .ok (.aload_n 0, 1) := by decide +kernel
theorem dXL_law_984 : decode code 984 = .ok (.iload_n 3, 1) := by decide +kernel
theorem dXL_law_985 : decode code 985 = .ok (.iconst 1, 1) := by decide +kernel
theorem dXL_law_986 : decode code 986 = .ok (.iadd, 1) := by decide +kernel
theorem dXL_law_987 : decode code 987 = .ok (.iaload, 1) := by decide +kernel
theorem dXL_law_988 : decode code 988 = .ok (.aload_n 0, 1) := by decide +kernel
theorem dXL_law_989 : decode code 989 = .ok (.iload_n 3, 1) := by decide +kernel
theorem dXL_law_990 : decode code 990 = .ok (.iconst 2, 1) := by decide +kernel
theorem dXL_law_991 : decode code 991 = .ok (.iadd, 1) := by decide +kernel
theorem dXL_law_992 : decode code 992 = .ok (.iaload, 1) := by decide +kernel
theorem dXL_law_993 : decode code 993 = .ok (.invokevirtual 115, 3) := by decide +kernel
theorem dXL_law_996 : decode code 996 = .ok (.aload_n 2, 1) := by decide +kernel
theorem dXL_law_997 : decode code 997 = .ok (.aload_n 0, 1) := by decide +kernel
theorem dXL_law_998 : decode code 998 = .ok (.iload_n 3, 1) := by decide +kernel
theorem dXL_law_999 : decode code 999 = .ok (.iconst 1, 1) := by decide +kernel
theorem dXL_law_1000 : decode code 1000 = .ok (.iadd, 1) := by decide +kernel
theorem dXL_law_1001 : decode code 1001 = .ok (.iaload, 1) := by decide +kernel
theorem dXL_law_1002 : decode code 1002 = .ok (.aload_n 0, 1) := by decide +kernel
theorem dXL_law_1003 : decode code 1003 = .ok (.iload_n 3, 1) := by decide +kernel
theorem dXL_law_1004 : decode code 1004 = .ok (.iconst 2, 1) := by decide +kernel
theorem dXL_law_1005 : decode code 1005 = .ok (.iadd, 1) := by decide +kernel
theorem dXL_law_1006 : decode code 1006 = .ok (.iaload, 1) := by decide +kernel
theorem dXL_law_1007 : decode code 1007 = .ok (.invokevirtual 118, 3) := by decide +kernel
theorem dXL_law_1010 : decode code 1010 = .ok (.if_icmp .eq 394, 3) := by decide +kernel
theorem dXL_law_1013 : decode code 1013 = .ok (.iconst 0, 1) := by decide +kernel
theorem dXL_law_1014 : decode code 1014 = .ok (.ireturn, 1) := by decide +kernel
theorem dXL_law_1015 : decode code 1015 = .ok (.aload_n 1, 1) := by decide +kernel
theorem dXL_law_1016 : decode code 1016 = .ok (.aload_n 0, 1) := by decide +kernel
theorem dXL_law_1017 : decode code 1017 = .ok (.iload_n 3, 1) := by decide +kernel
theorem dXL_law_1018 : decode code 1018 = .ok (.iconst 1, 1) := by decide +kernel
theorem dXL_law_1019 : decode code 1019 = .ok (.iadd, 1) := by decide +kernel
theorem dXL_law_1020 : decode code 1020 = .ok (.iaload, 1) := by decide +kernel
theorem dXL_law_1021 : decode code 1021 = .ok (.aload_n 0, 1) := by decide +kernel
theorem dXL_law_1022 : decode code 1022 = .ok (.iload_n 3, 1) := by decide +kernel
theorem dXL_law_1023 : decode code 1023 = .ok (.iconst 2, 1) := by decide +kernel
theorem dXL_law_1024 : decode code 1024 = .ok (.iadd, 1) := by decide +kernel
theorem dXL_law_1025 : decode code 1025 = .ok (.iaload, 1) := by decide +kernel
theorem dXL_law_1026 : decode code 1026 = .ok (.aload_n 0, 1) := by decide +kernel
theorem dXL_law_1027 : decode code 1027 = .ok (.iload_n 3, 1) := by decide +kernel
theorem dXL_law_1028 : decode code 1028 = .ok (.iconst 3, 1) := by decide +kernel
theorem dXL_law_1029 : decode code 1029 = .ok (.iadd, 1) := by decide +kernel
theorem dXL_law_1030 : decode code 1030 = .ok (.iaload, 1) := by decide +kernel
theorem dXL_law_1031 : decode code 1031 = .ok (.invokevirtual 119, 3) := by decide +kernel
theorem dXL_law_1034 : decode code 1034 = .ok (.aload_n 2, 1) := by decide +kernel
theorem dXL_law_1035 : decode code 1035 = .ok (.aload_n 0, 1) := by decide +kernel
theorem dXL_law_1036 : decode code 1036 = .ok (.iload_n 3, 1) := by decide +kernel
theorem dXL_law_1037 : decode code 1037 = .ok (.iconst 1, 1) := by decide +kernel
theorem dXL_law_1038 : decode code 1038 = .ok (.iadd, 1) := by decide +kernel
theorem dXL_law_1039 : decode code 1039 = .ok (.iaload, 1) := by decide +kernel
theorem dXL_law_1040 : decode code 1040 = .ok (.aload_n 0, 1) := by decide +kernel
theorem dXL_law_1041 : decode code 1041 = .ok (.iload_n 3, 1) := by decide +kernel
theorem dXL_law_1042 : decode code 1042 = .ok (.iconst 2, 1) := by decide +kernel
theorem dXL_law_1043 : decode code 1043 = .ok (.iadd, 1) := by decide +kernel
theorem dXL_law_1044 : decode code 1044 = .ok (.iaload, 1) := by decide +kernel
theorem dXL_law_1045 : decode code 1045 = .ok (.aload_n 0, 1) := by decide +kernel
theorem dXL_law_1046 : decode code 1046 = .ok (.iload_n 3, 1) := by decide +kernel
theorem dXL_law_1047 : decode code 1047 = .ok (.iconst 3, 1) := by decide +kernel
theorem dXL_law_1048 : decode code 1048 = .ok (.iadd, 1) := by decide +kernel
theorem dXL_law_1049 : decode code 1049 = .ok (.iaload, 1) := by decide +kernel
theorem dXL_law_1050 : decode code 1050 = .ok (.invokevirtual 122, 3) := by decide +kernel
theorem dXL_law_1053 : decode code 1053 = .ok (.if_icmp .eq 351, 3) := by decide +kernel
theorem dXL_law_1056 : decode code 1056 = .ok (.iconst 0, 1) := by decide +kernel
theorem dXL_law_1057 : decode code 1057 = .ok (.ireturn, 1) := by decide +kernel
theorem dXL_law_1058 : decode code 1058 = .ok (.aload_n 1, 1) := by decide +kernel
theorem dXL_law_1059 : decode code 1059 = .ok (.aload_n 0, 1) := by decide +kernel
theorem dXL_law_1060 : decode code 1060 = .ok (.iload_n 3, 1) := by decide +kernel
theorem dXL_law_1061 : decode code 1061 = .ok (.iconst 1, 1) := by decide +kernel
theorem dXL_law_1062 : decode code 1062 = .ok (.iadd, 1) := by decide +kernel
theorem dXL_law_1063 : decode code 1063 = .ok (.iaload, 1) := by decide +kernel
theorem dXL_law_1064 : decode code 1064 = .ok (.invokevirtual 123, 3) := by decide +kernel
theorem dXL_law_1067 : decode code 1067 = .ok (.aload_n 2, 1) := by decide +kernel
theorem dXL_law_1068 : decode code 1068 = .ok (.aload_n 0, 1) := by decide +kernel
theorem dXL_law_1069 : decode code 1069 = .ok (.iload_n 3, 1) := by decide +kernel
theorem dXL_law_1070 : decode code 1070 = .ok (.iconst 1, 1) := by decide +kernel
theorem dXL_law_1071 : decode code 1071 = .ok (.iadd, 1) := by decide +kernel
theorem dXL_law_1072 : decode code 1072 = .ok (.iaload, 1) := by decide +kernel
theorem dXL_law_1073 : decode code 1073 = .ok (.invokevirtual 126, 3) := by decide +kernel
theorem dXL_law_1076 : decode code 1076 = .ok (.if_icmp .eq 328, 3) := by decide +kernel
theorem dXL_law_1079 : decode code 1079 = .ok (.iconst 0, 1) := by decide +kernel
theorem dXL_law_1080 : decode code 1080 = .ok (.ireturn, 1) := by decide +kernel
theorem dXL_law_1081 : decode code 1081 = .ok (.aload_n 1, 1) := by decide +kernel
theorem dXL_law_1082 : decode code 1082 = .ok (.aload_n 0, 1) := by decide +kernel
theorem dXL_law_1083 : decode code 1083 = .ok (.iload_n 3, 1) := by decide +kernel
theorem dXL_law_1084 : decode code 1084 = .ok (.iconst 1, 1) := by decide +kernel
theorem dXL_law_1085 : decode code 1085 = .ok (.iadd, 1) := by decide +kernel
theorem dXL_law_1086 : decode code 1086 = .ok (.iaload, 1) := by decide +kernel
theorem dXL_law_1087 : decode code 1087 = .ok (.aload_n 0, 1) := by decide +kernel
theorem dXL_law_1088 : decode code 1088 = .ok (.iload_n 3, 1) := by decide +kernel
theorem dXL_law_1089 : decode code 1089 = .ok (.iconst 2, 1) := by decide +kernel
theorem dXL_law_1090 : decode code 1090 = .ok (.iadd, 1) := by decide +kernel
theorem dXL_law_1091 : decode code 1091 = .ok (.iaload, 1) := by decide +kernel
theorem dXL_law_1092 : decode code 1092 = .ok (.aload_n 0, 1) := by decide +kernel
theorem dXL_law_1093 : decode code 1093 = .ok (.iload_n 3, 1) := by decide +kernel
theorem dXL_law_1094 : decode code 1094 = .ok (.iconst 3, 1) := by decide +kernel
theorem dXL_law_1095 : decode code 1095 = .ok (.iadd, 1) := by decide +kernel
theorem dXL_law_1096 : decode code 1096 = .ok (.iaload, 1) := by decide +kernel
theorem dXL_law_1097 : decode code 1097 = .ok (.invokevirtual 127, 3) := by decide +kernel
theorem dXL_law_1100 : decode code 1100 = .ok (.aload_n 2, 1) := by decide +kernel
theorem dXL_law_1101 : decode code 1101 = .ok (.aload_n 0, 1) := by decide +kernel
theorem dXL_law_1102 : decode code 1102 = .ok (.iload_n 3, 1) := by decide +kernel
theorem dXL_law_1103 : decode code 1103 = .ok (.iconst 1, 1) := by decide +kernel
theorem dXL_law_1104 : decode code 1104 = .ok (.iadd, 1) := by decide +kernel
theorem dXL_law_1105 : decode code 1105 = .ok (.iaload, 1) := by decide +kernel
theorem dXL_law_1106 : decode code 1106 = .ok (.aload_n 0, 1) := by decide +kernel
theorem dXL_law_1107 : decode code 1107 = .ok (.iload_n 3, 1) := by decide +kernel
theorem dXL_law_1108 : decode code 1108 = .ok (.iconst 2, 1) := by decide +kernel
theorem dXL_law_1109 : decode code 1109 = .ok (.iadd, 1) := by decide +kernel
theorem dXL_law_1110 : decode code 1110 = .ok (.iaload, 1) := by decide +kernel
theorem dXL_law_1111 : decode code 1111 = .ok (.aload_n 0, 1) := by decide +kernel
theorem dXL_law_1112 : decode code 1112 = .ok (.iload_n 3, 1) := by decide +kernel
theorem dXL_law_1113 : decode code 1113 = .ok (.iconst 3, 1) := by decide +kernel
theorem dXL_law_1114 : decode code 1114 = .ok (.iadd, 1) := by decide +kernel
theorem dXL_law_1115 : decode code 1115 = .ok (.iaload, 1) := by decide +kernel
theorem dXL_law_1116 : decode code 1116 = .ok (.invokevirtual 130, 3) := by decide +kernel
theorem dXL_law_1119 : decode code 1119 = .ok (.if_icmp .eq 285, 3) := by decide +kernel
theorem dXL_law_1122 : decode code 1122 = .ok (.iconst 0, 1) := by decide +kernel
theorem dXL_law_1123 : decode code 1123 = .ok (.ireturn, 1) := by decide +kernel
theorem dXL_law_1124 : decode code 1124 = .ok (.aload_n 1, 1) := by decide +kernel
theorem dXL_law_1125 : decode code 1125 = .ok (.aload_n 0, 1) := by decide +kernel
theorem dXL_law_1126 : decode code 1126 = .ok (.iload_n 3, 1) := by decide +kernel
theorem dXL_law_1127 : decode code 1127 = .ok (.iconst 1, 1) := by decide +kernel
theorem dXL_law_1128 : decode code 1128 = .ok (.iadd, 1) := by decide +kernel
theorem dXL_law_1129 : decode code 1129 = .ok (.iaload, 1) := by decide +kernel
theorem dXL_law_1130 : decode code 1130 = .ok (.aload_n 0, 1) := by decide +kernel
theorem dXL_law_1131 : decode code 1131 = .ok (.iload_n 3, 1) := by decide +kernel
theorem dXL_law_1132 : decode code 1132 = .ok (.iconst 2, 1) := by decide +kernel
theorem dXL_law_1133 : decode code 1133 = .ok (.iadd, 1) := by decide +kernel
theorem dXL_law_1134 : decode code 1134 = .ok (.iaload, 1) := by decide +kernel
theorem dXL_law_1135 : decode code 1135 = .ok (.aload_n 0, 1) := by decide +kernel
theorem dXL_law_1136 : decode code 1136 = .ok (.iload_n 3, 1) := by decide +kernel
theorem dXL_law_1137 : decode code 1137 = .ok (.iconst 3, 1) := by decide +kernel
theorem dXL_law_1138 : decode code 1138 = .ok (.iadd, 1) := by decide +kernel
theorem dXL_law_1139 : decode code 1139 = .ok (.iaload, 1) := by decide +kernel
theorem dXL_law_1140 : decode code 1140 = .ok (.invokevirtual 131, 3) := by decide +kernel
theorem dXL_law_1143 : decode code 1143 = .ok (.aload_n 2, 1) := by decide +kernel
theorem dXL_law_1144 : decode code 1144 = .ok (.aload_n 0, 1) := by decide +kernel
theorem dXL_law_1145 : decode code 1145 = .ok (.iload_n 3, 1) := by decide +kernel
theorem dXL_law_1146 : decode code 1146 = .ok (.iconst 1, 1) := by decide +kernel
theorem dXL_law_1147 : decode code 1147 = .ok (.iadd, 1) := by decide +kernel
theorem dXL_law_1148 : decode code 1148 = .ok (.iaload, 1) := by decide +kernel
theorem dXL_law_1149 : decode code 1149 = .ok (.aload_n 0, 1) := by decide +kernel
theorem dXL_law_1150 : decode code 1150 = .ok (.iload_n 3, 1) := by decide +kernel
theorem dXL_law_1151 : decode code 1151 = .ok (.iconst 2, 1) := by decide +kernel
theorem dXL_law_1152 : decode code 1152 = .ok (.iadd, 1) := by decide +kernel
theorem dXL_law_1153 : decode code 1153 = .ok (.iaload, 1) := by decide +kernel
theorem dXL_law_1154 : decode code 1154 = .ok (.aload_n 0, 1) := by decide +kernel
theorem dXL_law_1155 : decode code 1155 = .ok (.iload_n 3, 1) := by decide +kernel
theorem dXL_law_1156 : decode code 1156 = .ok (.iconst 3, 1) := by decide +kernel
theorem dXL_law_1157 : decode code 1157 = .ok (.iadd, 1) := by decide +kernel
theorem dXL_law_1158 : decode code 1158 = .ok (.iaload, 1) := by decide +kernel
theorem dXL_law_1159 : decode code 1159 = .ok (.invokevirtual 134, 3) := by decide +kernel
theorem dXL_law_1162 : decode code 1162 = .ok (.if_icmp .eq 242, 3) := by decide +kernel
theorem dXL_law_1165 : decode code 1165 = .ok (.iconst 0, 1) := by decide +kernel
theorem dXL_law_1166 : decode code 1166 = .ok (.ireturn, 1) := by decide +kernel
theorem dXL_law_1167 : decode code 1167 = .ok (.aload_n 1, 1) := by decide +kernel
theorem dXL_law_1168 : decode code 1168 = .ok (.aload_n 0, 1) := by decide +kernel
theorem dXL_law_1169 : decode code 1169 = .ok (.iload_n 3, 1) := by decide +kernel
theorem dXL_law_1170 : decode code 1170 = .ok (.iconst 1, 1) := by decide +kernel
theorem dXL_law_1171 : decode code 1171 = .ok (.iadd, 1) := by decide +kernel
theorem dXL_law_1172 : decode code 1172 = .ok (.iaload, 1) := by decide +kernel
theorem dXL_law_1173 : decode code 1173 = .ok (.aload_n 0, 1) := by decide +kernel
theorem dXL_law_1174 : decode code 1174 = .ok (.iload_n 3, 1) := by decide +kernel
theorem dXL_law_1175 : decode code 1175 = .ok (.iconst 2, 1) := by decide +kernel
theorem dXL_law_1176 : decode code 1176 = .ok (.iadd, 1) := by decide +kernel
theorem dXL_law_1177 : decode code 1177 = .ok (.iaload, 1) := by decide +kernel
theorem dXL_law_1178 : decode code 1178 = .ok (.aload_n 0, 1) := by decide +kernel
theorem dXL_law_1179 : decode code 1179 = .ok (.iload_n 3, 1) := by decide +kernel
theorem dXL_law_1180 : decode code 1180 = .ok (.iconst 3, 1) := by decide +kernel
theorem dXL_law_1181 : decode code 1181 = .ok (.iadd, 1) := by decide +kernel
theorem dXL_law_1182 : decode code 1182 = .ok (.iaload, 1) := by decide +kernel
theorem dXL_law_1183 : decode code 1183 = .ok (.aload_n 0, 1) := by decide +kernel
theorem dXL_law_1184 : decode code 1184 = .ok (.iload_n 3, 1) := by decide +kernel
theorem dXL_law_1185 : decode code 1185 = .ok (.iconst 4, 1) := by decide +kernel
theorem dXL_law_1186 : decode code 1186 = .ok (.iadd, 1) := by decide +kernel
theorem dXL_law_1187 : decode code 1187 = .ok (.iaload, 1) := by decide +kernel
theorem dXL_law_1188 : decode code 1188 = .ok (.aload_n 0, 1) := by decide +kernel
theorem dXL_law_1189 : decode code 1189 = .ok (.iload_n 3, 1) := by decide +kernel
theorem dXL_law_1190 : decode code 1190 = .ok (.iconst 5, 1) := by decide +kernel
theorem dXL_law_1191 : decode code 1191 = .ok (.iadd, 1) := by decide +kernel
theorem dXL_law_1192 : decode code 1192 = .ok (.iaload, 1) := by decide +kernel
theorem dXL_law_1193 : decode code 1193 = .ok (.invokevirtual 135, 3) := by decide +kernel
theorem dXL_law_1196 : decode code 1196 = .ok (.aload_n 2, 1) := by decide +kernel
theorem dXL_law_1197 : decode code 1197 = .ok (.aload_n 0, 1) := by decide +kernel
theorem dXL_law_1198 : decode code 1198 = .ok (.iload_n 3, 1) := by decide +kernel
theorem dXL_law_1199 : decode code 1199 = .ok (.iconst 1, 1) := by decide +kernel
theorem dXL_law_1200 : decode code 1200 = .ok (.iadd, 1) := by decide +kernel
theorem dXL_law_1201 : decode code 1201 = .ok (.iaload, 1) := by decide +kernel
theorem dXL_law_1202 : decode code 1202 = .ok (.aload_n 0, 1) := by decide +kernel
theorem dXL_law_1203 : decode code 1203 = .ok (.iload_n 3, 1) := by decide +kernel
theorem dXL_law_1204 : decode code 1204 = .ok (.iconst 2, 1) := by decide +kernel
theorem dXL_law_1205 : decode code 1205 = .ok (.iadd, 1) := by decide +kernel
theorem dXL_law_1206 : decode code 1206 = .ok (.iaload, 1) := by decide +kernel
theorem dXL_law_1207 : decode code 1207 = .ok (.aload_n 0, 1) := by decide +kernel
theorem dXL_law_1208 : decode code 1208 = .ok (.iload_n 3, 1) := by decide +kernel
theorem dXL_law_1209 : decode code 1209 = .ok (.iconst 3, 1) := by decide +kernel
theorem dXL_law_1210 : decode code 1210 = .ok (.iadd, 1) := by decide +kernel
theorem dXL_law_1211 : decode code 1211 = .ok (.iaload, 1) := by decide +kernel
theorem dXL_law_1212 : decode code 1212 = .ok (.aload_n 0, 1) := by decide +kernel
theorem dXL_law_1213 : decode code 1213 = .ok (.iload_n 3, 1) := by decide +kernel
theorem dXL_law_1214 : decode code 1214 = .ok (.iconst 4, 1) := by decide +kernel
theorem dXL_law_1215 : decode code 1215 = .ok (.iadd, 1) := by decide +kernel
theorem dXL_law_1216 : decode code 1216 = .ok (.iaload, 1) := by decide +kernel
theorem dXL_law_1217 : decode code 1217 = .ok (.aload_n 0, 1) := by decide +kernel
theorem dXL_law_1218 : decode code 1218 = .ok (.iload_n 3, 1) := by decide +kernel
theorem dXL_law_1219 : decode code 1219 = .ok (.iconst 5, 1) := by decide +kernel
theorem dXL_law_1220 : decode code 1220 = .ok (.iadd, 1) := by decide +kernel
theorem dXL_law_1221 : decode code 1221 = .ok (.iaload, 1) := by decide +kernel
theorem dXL_law_1222 : decode code 1222 = .ok (.invokevirtual 139, 3) := by decide +kernel
theorem dXL_law_1225 : decode code 1225 = .ok (.if_icmp .eq 179, 3) := by decide +kernel
theorem dXL_law_1228 : decode code 1228 = .ok (.iconst 0, 1) := by decide +kernel
theorem dXL_law_1229 : decode code 1229 = .ok (.ireturn, 1) := by decide +kernel
theorem dXL_law_1230 : decode code 1230 = .ok (.aload_n 1, 1) := by decide +kernel
theorem dXL_law_1231 : decode code 1231 = .ok (.aload_n 0, 1) := by decide +kernel
theorem dXL_law_1232 : decode code 1232 = .ok (.iload_n 3, 1) := by decide +kernel
theorem dXL_law_1233 : decode code 1233 = .ok (.iconst 1, 1) := by decide +kernel
theorem dXL_law_1234 : decode code 1234 = .ok (.iadd, 1) := by decide +kernel
theorem dXL_law_1235 : decode code 1235 = .ok (.iaload, 1) := by decide +kernel
theorem dXL_law_1236 : decode code 1236 = .ok (.invokevirtual 140, 3) := by decide +kernel
theorem dXL_law_1239 : decode code 1239 = .ok (.aload_n 2, 1) := by decide +kernel
theorem dXL_law_1240 : decode code 1240 = .ok (.aload_n 0, 1) := by decide +kernel
theorem dXL_law_1241 : decode code 1241 = .ok (.iload_n 3, 1) := by decide +kernel
theorem dXL_law_1242 : decode code 1242 = .ok (.iconst 1, 1) := by decide +kernel
theorem dXL_law_1243 : decode code 1243 = .ok (.iadd, 1) := by decide +kernel
theorem dXL_law_1244 : decode code 1244 = .ok (.iaload, 1) := by decide +kernel
theorem dXL_law_1245 : decode code 1245 = .ok (.invokevirtual 143, 3) := by decide +kernel
theorem dXL_law_1248 : decode code 1248 = .ok (.if_icmp .eq 156, 3) := by decide +kernel
theorem dXL_law_1251 : decode code 1251 = .ok (.iconst 0, 1) := by decide +kernel
theorem dXL_law_1252 : decode code 1252 = .ok (.ireturn, 1) := by decide +kernel
theorem dXL_law_1253 : decode code 1253 = .ok (.aload_n 1, 1) := by decide +kernel
theorem dXL_law_1254 : decode code 1254 = .ok (.aload_n 0, 1) := by decide +kernel
theorem dXL_law_1255 : decode code 1255 = .ok (.iload_n 3, 1) := by decide +kernel
theorem dXL_law_1256 : decode code 1256 = .ok (.iconst 1, 1) := by decide +kernel
theorem dXL_law_1257 : decode code 1257 = .ok (.iadd, 1) := by decide +kernel
theorem dXL_law_1258 : decode code 1258 = .ok (.iaload, 1) := by decide +kernel
theorem dXL_law_1259 : decode code 1259 = .ok (.aload_n 0, 1) := by decide +kernel
theorem dXL_law_1260 : decode code 1260 = .ok (.iload_n 3, 1) := by decide +kernel
theorem dXL_law_1261 : decode code 1261 = .ok (.iconst 2, 1) := by decide +kernel
theorem dXL_law_1262 : decode code 1262 = .ok (.iadd, 1) := by decide +kernel
theorem dXL_law_1263 : decode code 1263 = .ok (.iaload, 1) := by decide +kernel
theorem dXL_law_1264 : decode code 1264 = .ok (.invokevirtual 144, 3) := by decide +kernel
theorem dXL_law_1267 : decode code 1267 = .ok (.aload_n 2, 1) := by decide +kernel
theorem dXL_law_1268 : decode code 1268 = .ok (.aload_n 0, 1) := by decide +kernel
theorem dXL_law_1269 : decode code 1269 = .ok (.iload_n 3, 1) := by decide +kernel
theorem dXL_law_1270 : decode code 1270 = .ok (.iconst 1, 1) := by decide +kernel
theorem dXL_law_1271 : decode code 1271 = .ok (.iadd, 1) := by decide +kernel
theorem dXL_law_1272 : decode code 1272 = .ok (.iaload, 1) := by decide +kernel
theorem dXL_law_1273 : decode code 1273 = .ok (.aload_n 0, 1) := by decide +kernel
theorem dXL_law_1274 : decode code 1274 = .ok (.iload_n 3, 1) := by decide +kernel
theorem dXL_law_1275 : decode code 1275 = .ok (.iconst 2, 1) := by decide +kernel
theorem dXL_law_1276 : decode code 1276 = .ok (.iadd, 1) := by decide +kernel
theorem dXL_law_1277 : decode code 1277 = .ok (.iaload, 1) := by decide +kernel
theorem dXL_law_1278 : decode code 1278 = .ok (.invokevirtual 147, 3) := by decide +kernel
theorem dXL_law_1281 : decode code 1281 = .ok (.if_icmp .eq 123, 3) := by decide +kernel
theorem dXL_law_1284 : decode code 1284 = .ok (.iconst 0, 1) := by decide +kernel
theorem dXL_law_1285 : decode code 1285 = .ok (.ireturn, 1) := by decide +kernel
theorem dXL_law_1286 : decode code 1286 = .ok (.aload_n 1, 1) := by decide +kernel
theorem dXL_law_1287 : decode code 1287 = .ok (.invokevirtual 148, 3) := by decide +kernel
theorem dXL_law_1290 : decode code 1290 = .ok (.aload_n 2, 1) := by decide +kernel
theorem dXL_law_1291 : decode code 1291 = .ok (.invokevirtual 152, 3) := by decide +kernel
theorem dXL_law_1294 : decode code 1294 = .ok (.if_icmp .eq 110, 3) := by decide +kernel
theorem dXL_law_1297 : decode code 1297 = .ok (.iconst 0, 1) := by decide +kernel
theorem dXL_law_1298 : decode code 1298 = .ok (.ireturn, 1) := by decide +kernel
theorem dXL_law_1299 : decode code 1299 = .ok (.aload_n 1, 1) := by decide +kernel
theorem dXL_law_1300 : decode code 1300 = .ok (.invokevirtual 153, 3) := by decide +kernel
theorem dXL_law_1303 : decode code 1303 = .ok (.aload_n 2, 1) := by decide +kernel
theorem dXL_law_1304 : decode code 1304 = .ok (.invokevirtual 156, 3) := by decide +kernel
theorem dXL_law_1307 : decode code 1307 = .ok (.if_icmp .eq 97, 3) := by decide +kernel
theorem dXL_law_1310 : decode code 1310 = .ok (.iconst 0, 1) := by decide +kernel
theorem dXL_law_1311 : decode code 1311 = .ok (.ireturn, 1) := by decide +kernel
theorem dXL_law_1312 : decode code 1312 = .ok (.aload_n 1, 1) := by decide +kernel
theorem dXL_law_1313 : decode code 1313 = .ok (.aload_n 0, 1) := by decide +kernel
theorem dXL_law_1314 : decode code 1314 = .ok (.iload_n 3, 1) := by decide +kernel
theorem dXL_law_1315 : decode code 1315 = .ok (.iconst 1, 1) := by decide +kernel
theorem dXL_law_1316 : decode code 1316 = .ok (.iadd, 1) := by decide +kernel
theorem dXL_law_1317 : decode code 1317 = .ok (.iaload, 1) := by decide +kernel
theorem dXL_law_1318 : decode code 1318 = .ok (.invokevirtual 157, 3) := by decide +kernel
theorem dXL_law_1321 : decode code 1321 = .ok (.aload_n 2, 1) := by decide +kernel
theorem dXL_law_1322 : decode code 1322 = .ok (.aload_n 0, 1) := by decide +kernel
theorem dXL_law_1323 : decode code 1323 = .ok (.iload_n 3, 1) := by decide +kernel
theorem dXL_law_1324 : decode code 1324 = .ok (.iconst 1, 1) := by decide +kernel
theorem dXL_law_1325 : decode code 1325 = .ok (.iadd, 1) := by decide +kernel
theorem dXL_law_1326 : decode code 1326 = .ok (.iaload, 1) := by decide +kernel
theorem dXL_law_1327 : decode code 1327 = .ok (.invokevirtual 160, 3) := by decide +kernel
theorem dXL_law_1330 : decode code 1330 = .ok (.if_icmp .eq 74, 3) := by decide +kernel
theorem dXL_law_1333 : decode code 1333 = .ok (.iconst 0, 1) := by decide +kernel
theorem dXL_law_1334 : decode code 1334 = .ok (.ireturn, 1) := by decide +kernel
theorem dXL_law_1335 : decode code 1335 = .ok (.aload_n 1, 1) := by decide +kernel
theorem dXL_law_1336 : decode code 1336 = .ok (.aload_n 0, 1) := by decide +kernel
theorem dXL_law_1337 : decode code 1337 = .ok (.iload_n 3, 1) := by decide +kernel
theorem dXL_law_1338 : decode code 1338 = .ok (.iconst 1, 1) := by decide +kernel
theorem dXL_law_1339 : decode code 1339 = .ok (.iadd, 1) := by decide +kernel
theorem dXL_law_1340 : decode code 1340 = .ok (.iaload, 1) := by decide +kernel
theorem dXL_law_1341 : decode code 1341 = .ok (.invokevirtual 161, 3) := by decide +kernel
theorem dXL_law_1344 : decode code 1344 = .ok (.aload_n 2, 1) := by decide +kernel
theorem dXL_law_1345 : decode code 1345 = .ok (.aload_n 0, 1) := by decide +kernel
theorem dXL_law_1346 : decode code 1346 = .ok (.iload_n 3, 1) := by decide +kernel
theorem dXL_law_1347 : decode code 1347 = .ok (.iconst 1, 1) := by decide +kernel
theorem dXL_law_1348 : decode code 1348 = .ok (.iadd, 1) := by decide +kernel
theorem dXL_law_1349 : decode code 1349 = .ok (.iaload, 1) := by decide +kernel
theorem dXL_law_1350 : decode code 1350 = .ok (.invokevirtual 164, 3) := by decide +kernel
theorem dXL_law_1353 : decode code 1353 = .ok (.if_icmp .eq 51, 3) := by decide +kernel
theorem dXL_law_1356 : decode code 1356 = .ok (.iconst 0, 1) := by decide +kernel
theorem dXL_law_1357 : decode code 1357 = .ok (.ireturn, 1) := by decide +kernel
theorem dXL_law_1358 : decode code 1358 = .ok (.aload_n 1, 1) := by decide +kernel
theorem dXL_law_1359 : decode code 1359 = .ok (.aload_n 0, 1) := by decide +kernel
theorem dXL_law_1360 : decode code 1360 = .ok (.iload_n 3, 1) := by decide +kernel
theorem dXL_law_1361 : decode code 1361 = .ok (.iconst 1, 1) := by decide +kernel
theorem dXL_law_1362 : decode code 1362 = .ok (.iadd, 1) := by decide +kernel
theorem dXL_law_1363 : decode code 1363 = .ok (.iaload, 1) := by decide +kernel
theorem dXL_law_1364 : decode code 1364 = .ok (.invokevirtual 165, 3) := by decide +kernel
theorem dXL_law_1367 : decode code 1367 = .ok (.aload_n 2, 1) := by decide +kernel
theorem dXL_law_1368 : decode code 1368 = .ok (.aload_n 0, 1) := by decide +kernel
theorem dXL_law_1369 : decode code 1369 = .ok (.iload_n 3, 1) := by decide +kernel
theorem dXL_law_1370 : decode code 1370 = .ok (.iconst 1, 1) := by decide +kernel
theorem dXL_law_1371 : decode code 1371 = .ok (.iadd, 1) := by decide +kernel
theorem dXL_law_1372 : decode code 1372 = .ok (.iaload, 1) := by decide +kernel
theorem dXL_law_1373 : decode code 1373 = .ok (.invokevirtual 168, 3) := by decide +kernel
theorem dXL_law_1376 : decode code 1376 = .ok (.if_icmp .eq 28, 3) := by decide +kernel
theorem dXL_law_1379 : decode code 1379 = .ok (.iconst 0, 1) := by decide +kernel
theorem dXL_law_1380 : decode code 1380 = .ok (.ireturn, 1) := by decide +kernel
theorem dXL_law_1381 : decode code 1381 = .ok (.aload_n 1, 1) := by decide +kernel
theorem dXL_law_1382 : decode code 1382 = .ok (.aload_n 0, 1) := by decide +kernel
theorem dXL_law_1383 : decode code 1383 = .ok (.iload_n 3, 1) := by decide +kernel
theorem dXL_law_1384 : decode code 1384 = .ok (.iconst 1, 1) := by decide +kernel
theorem dXL_law_1385 : decode code 1385 = .ok (.iadd, 1) := by decide +kernel
theorem dXL_law_1386 : decode code 1386 = .ok (.iaload, 1) := by decide +kernel
theorem dXL_law_1387 : decode code 1387 = .ok (.invokevirtual 169, 3) := by decide +kernel
theorem dXL_law_1390 : decode code 1390 = .ok (.aload_n 2, 1) := by decide +kernel
theorem dXL_law_1391 : decode code 1391 = .ok (.aload_n 0, 1) := by decide +kernel
theorem dXL_law_1392 : decode code 1392 = .ok (.iload_n 3, 1) := by decide +kernel
theorem dXL_law_1393 : decode code 1393 = .ok (.iconst 1, 1) := by decide +kernel
theorem dXL_law_1394 : decode code 1394 = .ok (.iadd, 1) := by decide +kernel
theorem dXL_law_1395 : decode code 1395 = .ok (.iaload, 1) := by decide +kernel
theorem dXL_law_1396 : decode code 1396 = .ok (.invokevirtual 172, 3) := by decide +kernel
theorem dXL_law_1399 : decode code 1399 = .ok (.if_icmp .eq 5, 3) := by decide +kernel
theorem dXL_law_1402 : decode code 1402 = .ok (.iconst 0, 1) := by decide +kernel
theorem dXL_law_1403 : decode code 1403 = .ok (.ireturn, 1) := by decide +kernel
theorem dXL_law_1404 : decode code 1404 = .ok (.iinc 3 6, 3) := by decide +kernel
theorem dXL_law_1407 : decode code 1407 = .ok (.goto (-1389), 3) := by decide +kernel
theorem dXL_law_1410 : decode code 1410 = .ok (.iconst 1, 1) := by decide +kernel
theorem dXL_law_1411 : decode code 1411 = .ok (.ireturn, 1) := by decide +kernel
