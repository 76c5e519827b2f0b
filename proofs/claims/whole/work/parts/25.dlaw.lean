/-! ===== the law: decode rows, words ===== -/
theorem dL_0 : decode code 0 = .ok (.new 7, 3) := by decide +kernel
theorem dL_3 : decode code 3 = .ok (.dup, 1) := by decide +kernel
theorem dL_4 : decode code 4 = .ok (.invokespecial 9, 3) := by decide +kernel
theorem dL_7 : decode code 7 = .ok (.astore_n 1, 1) := by decide +kernel
theorem dL_8 : decode code 8 = .ok (.new 10, 3) := by decide +kernel
theorem dL_11 : decode code 11 = .ok (.dup, 1) := by decide +kernel
theorem dL_12 : decode code 12 = .ok (.invokespecial 12, 3) := by decide +kernel
theorem dL_15 : decode code 15 = .ok (.astore_n 2, 1) := by decide +kernel
theorem dL_16 : decode code 16 = .ok (.iconst 0, 1) := by decide +kernel
theorem dL_17 : decode code 17 = .ok (.istore_n 3, 1) := by decide +kernel
theorem dL_18 : decode code 18 = .ok (.iload_n 3, 1) := by decide +kernel
theorem dL_19 : decode code 19 = .ok (.aload_n 0, 1) := by decide +kernel
theorem dL_20 : decode code 20 = .ok (.arraylength, 1) := by decide +kernel
theorem dL_21 : decode code 21 = .ok (.bipush 6, 2) := by decide +kernel
theorem dL_23 : decode code 23 = .ok (.isub, 1) := by decide +kernel
theorem dL_24 : decode code 24 = .ok (.if_icmp .gt 1313, 3) := by decide +kernel
theorem dL_27 : decode code 27 = .ok (.aload_n 0, 1) := by decide +kernel
theorem dL_28 : decode code 28 = .ok (.iload_n 3, 1) := by decide +kernel
theorem dL_29 : decode code 29 = .ok (.iaload, 1) := by decide +kernel
theorem dL_30 : decode code 30 = .ok (.bipush 63, 2) := by decide +kernel
theorem dL_32 : decode code 32 = .ok (.iand, 1) := by decide +kernel
theorem dL_33 : decode code 33 = .ok (.tableswitch 1298 0 33 #[151, 194, 227, 260, 309, 342, 375, 398, 441, 464, 477, 500, 523, 556, 589, 622, 681, 724, 768, 802, 835, 858, 891, 904, 937, 950, 963, 1006, 1029, 1062, 1085, 1128, 1201, 1235], 151) := by decide +kernel
theorem dL_184 : decode code 184 = .ok (.aload_n 1, 1) := by decide +kernel
theorem dL_185 : decode code 185 = .ok (.aload_n 0, 1) := by decide +kernel
theorem dL_186 : decode code 186 = .ok (.iload_n 3, 1) := by decide +kernel
theorem dL_187 : decode code 187 = .ok (.iconst 1, 1) := by decide +kernel
theorem dL_188 : decode code 188 = .ok (.iadd, 1) := by decide +kernel
theorem dL_189 : decode code 189 = .ok (.iaload, 1) := by decide +kernel
theorem dL_190 : decode code 190 = .ok (.aload_n 0, 1) := by decide +kernel
theorem dL_191 : decode code 191 = .ok (.iload_n 3, 1) := by decide +kernel
theorem dL_192 : decode code 192 = .ok (.iconst 2, 1) := by decide +kernel
theorem dL_193 : decode code 193 = .ok (.iadd, 1) := by decide +kernel
theorem dL_194 : decode code 194 = .ok (.iaload, 1) := by decide +kernel
theorem dL_195 : decode code 195 = .ok (.aload_n 0, 1) := by decide +kernel
theorem dL_196 : decode code 196 = .ok (.iload_n 3, 1) := by decide +kernel
theorem dL_197 : decode code 197 = .ok (.iconst 3, 1) := by decide +kernel
theorem dL_198 : decode code 198 = .ok (.iadd, 1) := by decide +kernel
theorem dL_199 : decode code 199 = .ok (.iaload, 1) := by decide +kernel
theorem dL_200 : decode code 200 = .ok (.invokevirtual 13, 3) := by decide +kernel
theorem dL_203 : decode code 203 = .ok (.aload_n 2, 1) := by decide +kernel
theorem dL_204 : decode code 204 = .ok (.aload_n 0, 1) := by decide +kernel
theorem dL_205 : decode code 205 = .ok (.iload_n 3, 1) := by decide +kernel
theorem dL_206 : decode code 206 = .ok (.iconst 1, 1) := by decide +kernel
theorem dL_207 : decode code 207 = .ok (.iadd, 1) := by decide +kernel
theorem dL_208 : decode code 208 = .ok (.iaload, 1) := by decide +kernel
theorem dL_209 : decode code 209 = .ok (.aload_n 0, 1) := by decide +kernel
theorem dL_210 : decode code 210 = .ok (.iload_n 3, 1) := by decide +kernel
theorem dL_211 : decode code 211 = .ok (.iconst 2, 1) := by decide +kernel
theorem dL_212 : decode code 212 = .ok (.iadd, 1) := by decide +kernel
theorem dL_213 : decode code 213 = .ok (.iaload, 1) := by decide +kernel
theorem dL_214 : decode code 214 = .ok (.aload_n 0, 1) := by decide +kernel
theorem dL_215 : decode code 215 = .ok (.iload_n 3, 1) := by decide +kernel
theorem dL_216 : decode code 216 = .ok (.iconst 3, 1) := by decide +kernel
theorem dL_217 : decode code 217 = .ok (.iadd, 1) := by decide +kernel
theorem dL_218 : decode code 218 = .ok (.iaload, 1) := by decide +kernel
theorem dL_219 : decode code 219 = .ok (.invokevirtual 17, 3) := by decide +kernel
theorem dL_222 : decode code 222 = .ok (.if_icmp .eq 1109, 3) := by decide +kernel
theorem dL_225 : decode code 225 = .ok (.iconst 0, 1) := by decide +kernel
theorem dL_226 : decode code 226 = .ok (.ireturn, 1) := by decide +kernel
theorem dL_227 : decode code 227 = .ok (.aload_n 1, 1) := by decide +kernel
theorem dL_228 : decode code 228 = .ok (.aload_n 0, 1) := by decide +kernel
theorem dL_229 : decode code 229 = .ok (.iload_n 3, 1) := by decide +kernel
theorem dL_230 : decode code 230 = .ok (.iconst 1, 1) := by decide +kernel
theorem dL_231 : decode code 231 = .ok (.iadd, 1) := by decide +kernel
theorem dL_232 : decode code 232 = .ok (.iaload, 1) := by decide +kernel
theorem dL_233 : decode code 233 = .ok (.aload_n 0, 1) := by decide +kernel
theorem dL_234 : decode code 234 = .ok (.iload_n 3, 1) := by decide +kernel
theorem dL_235 : decode code 235 = .ok (.iconst 2, 1) := by decide +kernel
theorem dL_236 : decode code 236 = .ok (.iadd, 1) := by decide +kernel
theorem dL_237 : decode code 237 = .ok (.iaload, 1) := by decide +kernel
theorem dL_238 : decode code 238 = .ok (.invokevirtual 18, 3) := by decide +kernel
theorem dL_241 : decode code 241 = .ok (.aload_n 2, 1) := by decide +kernel
theorem dL_242 : decode code 242 = .ok (.aload_n 0, 1) := by decide +kernel
theorem dL_243 : decode code 243 = .ok (.iload_n 3, 1) := by decide +kernel
theorem dL_244 : decode code 244 = .ok (.iconst 1, 1) := by decide +kernel
theorem dL_245 : decode code 245 = .ok (.iadd, 1) := by decide +kernel
theorem dL_246 : decode code 246 = .ok (.iaload, 1) := by decide +kernel
theorem dL_247 : decode code 247 = .ok (.aload_n 0, 1) := by decide +kernel
theorem dL_248 : decode code 248 = .ok (.iload_n 3, 1) := by decide +kernel
theorem dL_249 : decode code 249 = .ok (.iconst 2, 1) := by decide +kernel
theorem dL_250 : decode code 250 = .ok (.iadd, 1) := by decide +kernel
theorem dL_251 : decode code 251 = .ok (.iaload, 1) := by decide +kernel
theorem dL_252 : decode code 252 = .ok (.invokevirtual 22, 3) := by decide +kernel
theorem dL_255 : decode code 255 = .ok (.if_icmp .eq 1076, 3) := by decide +kernel
theorem dL_258 : decode code 258 = .ok (.iconst 0, 1) := by decide +kernel
theorem dL_259 : decode code 259 = .ok (.ireturn, 1) := by decide +kernel
theorem dL_260 : decode code 260 = .ok (.aload_n 1, 1) := by decide +kernel
theorem dL_261 : decode code 261 = .ok (.aload_n 0, 1) := by decide +kernel
theorem dL_262 : decode code 262 = .ok (.iload_n 3, 1) := by decide +kernel
theorem dL_263 : decode code 263 = .ok (.iconst 1, 1) := by decide +kernel
theorem dL_264 : decode code 264 = .ok (.iadd, 1) := by decide +kernel
theorem dL_265 : decode code 265 = .ok (.iaload, 1) := by decide +kernel
theorem dL_266 : decode code 266 = .ok (.aload_n 0, 1) := by decide +kernel
theorem dL_267 : decode code 267 = .ok (.iload_n 3, 1) := by decide +kernel
theorem dL_268 : decode code 268 = .ok (.iconst 2, 1) := by decide +kernel
theorem dL_269 : decode code 269 = .ok (.iadd, 1) := by decide +kernel
theorem dL_270 : decode code 270 = .ok (.iaload, 1) := by decide +kernel
theorem dL_271 : decode code 271 = .ok (.invokevirtual 23, 3) := by decide +kernel
theorem dL_274 : decode code 274 = .ok (.aload_n 2, 1) := by decide +kernel
theorem dL_275 : decode code 275 = .ok (.aload_n 0, 1) := by decide +kernel
theorem dL_276 : decode code 276 = .ok (.iload_n 3, 1) := by decide +kernel
theorem dL_277 : decode code 277 = .ok (.iconst 1, 1) := by decide +kernel
theorem dL_278 : decode code 278 = .ok (.iadd, 1) := by decide +kernel
theorem dL_279 : decode code 279 = .ok (.iaload, 1) := by decide +kernel
theorem dL_280 : decode code 280 = .ok (.aload_n 0, 1) := by decide +kernel
theorem dL_281 : decode code 281 = .ok (.iload_n 3, 1) := by decide +kernel
theorem dL_282 : decode code 282 = .ok (.iconst 2, 1) := by decide +kernel
theorem dL_283 : decode code 283 = .ok (.iadd, 1) := by decide +kernel
theorem dL_284 : decode code 284 = .ok (.iaload, 1) := by decide +kernel
theorem dL_285 : decode code 285 = .ok (.invokevirtual 26, 3) := by decide +kernel
theorem dL_288 : decode code 288 = .ok (.if_icmp .eq 1043, 3) := by decide +kernel
theorem dL_291 : decode code 291 = .ok (.iconst 0, 1) := by decide +kernel
theorem dL_292 : decode code 292 = .ok (.ireturn, 1) := by decide +kernel
theorem dL_293 : decode code 293 = .ok (.aload_n 1, 1) := by decide +kernel
theorem dL_294 : decode code 294 = .ok (.aload_n 0, 1) := by decide +kernel
theorem dL_295 : decode code 295 = .ok (.iload_n 3, 1) := by decide +kernel
theorem dL_296 : decode code 296 = .ok (.iconst 1, 1) := by decide +kernel
theorem dL_297 : decode code 297 = .ok (.iadd, 1) := by decide +kernel
theorem dL_298 : decode code 298 = .ok (.iaload, 1) := by decide +kernel
theorem dL_299 : decode code 299 = .ok (.aload_n 0, 1) := by decide +kernel
theorem dL_300 : decode code 300 = .ok (.iload_n 3, 1) := by decide +kernel
theorem dL_301 : decode code 301 = .ok (.iconst 2, 1) := by decide +kernel
theorem dL_302 : decode code 302 = .ok (.iadd, 1) := by decide +kernel
theorem dL_303 : decode code 303 = .ok (.iaload, 1) := by decide +kernel
theorem dL_304 : decode code 304 = .ok (.ifCond .eq 7, 3) := by decide +kernel
theorem dL_307 : decode code 307 = .ok (.iconst 1, 1) := by decide +kernel
theorem dL_308 : decode code 308 = .ok (.goto 4, 3) := by decide +kernel
theorem dL_311 : decode code 311 = .ok (.iconst 0, 1) := by decide +kernel
theorem dL_312 : decode code 312 = .ok (.invokevirtual 27, 3) := by decide +kernel
theorem dL_315 : decode code 315 = .ok (.aload_n 2, 1) := by decide +kernel
theorem dL_316 : decode code 316 = .ok (.aload_n 0, 1) := by decide +kernel
theorem dL_317 : decode code 317 = .ok (.iload_n 3, 1) := by decide +kernel
theorem dL_318 : decode code 318 = .ok (.iconst 1, 1) := by decide +kernel
theorem dL_319 : decode code 319 = .ok (.iadd, 1) := by decide +kernel
theorem dL_320 : decode code 320 = .ok (.iaload, 1) := by decide +kernel
theorem dL_321 : decode code 321 = .ok (.aload_n 0, 1) := by decide +kernel
theorem dL_322 : decode code 322 = .ok (.iload_n 3, 1) := by decide +kernel
theorem dL_323 : decode code 323 = .ok (.iconst 2, 1) := by decide +kernel
theorem dL_324 : decode code 324 = .ok (.iadd, 1) := by decide +kernel
theorem dL_325 : decode code 325 = .ok (.iaload, 1) := by decide +kernel
theorem dL_326 : decode code 326 = .ok (.ifCond .eq 7, 3) := by decide +kernel
theorem dL_329 : decode code 329 = .ok (.iconst 1, 1) := by decide +kernel
theorem dL_330 : decode code 330 = .ok (.goto 4, 3) := by decide +kernel
theorem dL_333 : decode code 333 = .ok (.iconst 0, 1) := by decide +kernel
theorem dL_334 : decode code 334 = .ok (.invokevirtual 31, 3) := by decide +kernel
theorem dL_337 : decode code 337 = .ok (.if_icmp .eq 994, 3) := by decide +kernel
theorem dL_340 : decode code 340 = .ok (.iconst 0, 1) := by decide +kernel
theorem dL_341 : decode code 341 = .ok (.ireturn, 1) := by decide +kernel
theorem dL_342 : decode code 342 = .ok (.aload_n 1, 1) := by decide +kernel
theorem dL_343 : decode code 343 = .ok (.aload_n 0, 1) := by decide +kernel
theorem dL_344 : decode code 344 = .ok (.iload_n 3, 1) := by decide +kernel
theorem dL_345 : decode code 345 = .ok (.iconst 1, 1) := by decide +kernel
theorem dL_346 : decode code 346 = .ok (.iadd, 1) := by decide +kernel
theorem dL_347 : decode code 347 = .ok (.iaload, 1) := by decide +kernel
theorem dL_348 : decode code 348 = .ok (.aload_n 0, 1) := by decide +kernel
theorem dL_349 : decode code 349 = .ok (.iload_n 3, 1) := by decide +kernel
theorem dL_350 : decode code 350 = .ok (.iconst 2, 1) := by decide +kernel
theorem dL_351 : decode code 351 = .ok (.iadd, 1) := by decide +kernel
theorem dL_352 : decode code 352 = .ok (.iaload, 1) := by decide +kernel
theorem dL_353 : decode code 353 = .ok (.invokevirtual 32, 3) := by decide +kernel
theorem dL_356 : decode code 356 = .ok (.aload_n 2, 1) := by decide +kernel
theorem dL_357 : decode code 357 = .ok (.aload_n 0, 1) := by decide +kernel
theorem dL_358 : decode code 358 = .ok (.iload_n 3, 1) := by decide +kernel
theorem dL_359 : decode code 359 = .ok (.iconst 1, 1) := by decide +kernel
theorem dL_360 : decode code 360 = .ok (.iadd, 1) := by decide +kernel
theorem dL_361 : decode code 361 = .ok (.iaload, 1) := by decide +kernel
theorem dL_362 : decode code 362 = .ok (.aload_n 0, 1) := by decide +kernel
theorem dL_363 : decode code 363 = .ok (.iload_n 3, 1) := by decide +kernel
theorem dL_364 : decode code 364 = .ok (.iconst 2, 1) := by decide +kernel
theorem dL_365 : decode code 365 = .ok (.iadd, 1) := by decide +kernel
theorem dL_366 : decode code 366 = .ok (.iaload, 1) := by decide +kernel
theorem dL_367 : decode code 367 = .ok (.invokevirtual 35, 3) := by decide +kernel
theorem dL_370 : decode code 370 = .ok (.if_icmp .eq 961, 3) := by decide +kernel
theorem dL_373 : decode code 373 = .ok (.iconst 0, 1) := by decide +kernel
theorem dL_374 : decode code 374 = .ok (.ireturn, 1) := by decide +kernel
theorem dL_375 : decode code 375 = .ok (.aload_n 1, 1) := by decide +kernel
theorem dL_376 : decode code 376 = .ok (.aload_n 0, 1) := by decide +kernel
theorem dL_377 : decode code 377 = .ok (.iload_n 3, 1) := by decide +kernel
theorem dL_378 : decode code 378 = .ok (.iconst 1, 1) := by decide +kernel
theorem dL_379 : decode code 379 = .ok (.iadd, 1) := by decide +kernel
theorem dL_380 : decode code 380 = .ok (.iaload, 1) := by decide +kernel
theorem dL_381 : decode code 381 = .ok (.aload_n 0, 1) := by decide +kernel
theorem dL_382 : decode code 382 = .ok (.iload_n 3, 1) := by decide +kernel
theorem dL_383 : decode code 383 = .ok (.iconst 2, 1) := by decide +kernel
theorem dL_384 : decode code 384 = .ok (.iadd, 1) := by decide +kernel
theorem dL_385 : decode code 385 = .ok (.iaload, 1) := by decide +kernel
theorem dL_386 : decode code 386 = .ok (.invokevirtual 36, 3) := by decide +kernel
theorem dL_389 : decode code 389 = .ok (.aload_n 2, 1) := by decide +kernel
theorem dL_390 : decode code 390 = .ok (.aload_n 0, 1) := by decide +kernel
theorem dL_391 : decode code 391 = .ok (.iload_n 3, 1) := by decide +kernel
theorem dL_392 : decode code 392 = .ok (.iconst 1, 1) := by decide +kernel
theorem dL_393 : decode code 393 = .ok (.iadd, 1) := by decide +kernel
theorem dL_394 : decode code 394 = .ok (.iaload, 1) := by decide +kernel
theorem dL_395 : decode code 395 = .ok (.aload_n 0, 1) := by decide +kernel
theorem dL_396 : decode code 396 = .ok (.iload_n 3, 1) := by decide +kernel
theorem dL_397 : decode code 397 = .ok (.iconst 2, 1) := by decide +kernel
theorem dL_398 : decode code 398 = .ok (.iadd, 1) := by decide +kernel
theorem dL_399 : decode code 399 = .ok (.iaload, 1) := by decide +kernel
theorem dL_400 : decode code 400 = .ok (.invokevirtual 39, 3) := by decide +kernel
theorem dL_403 : decode code 403 = .ok (.if_icmp .eq 928, 3) := by decide +kernel
theorem dL_406 : decode code 406 = .ok (.iconst 0, 1) := by decide +kernel
theorem dL_407 : decode code 407 = .ok (.ireturn, 1) := by decide +kernel
theorem dL_408 : decode code 408 = .ok (.aload_n 1, 1) := by decide +kernel
theorem dL_409 : decode code 409 = .ok (.aload_n 0, 1) := by decide +kernel
theorem dL_410 : decode code 410 = .ok (.iload_n 3, 1) := by decide +kernel
theorem dL_411 : decode code 411 = .ok (.iconst 1, 1) := by decide +kernel
theorem dL_412 : decode code 412 = .ok (.iadd, 1) := by decide +kernel
theorem dL_413 : decode code 413 = .ok (.iaload, 1) := by decide +kernel
theorem dL_414 : decode code 414 = .ok (.invokevirtual 40, 3) := by decide +kernel
theorem dL_417 : decode code 417 = .ok (.aload_n 2, 1) := by decide +kernel
theorem dL_418 : decode code 418 = .ok (.aload_n 0, 1) := by decide +kernel
theorem dL_419 : decode code 419 = .ok (.iload_n 3, 1) := by decide +kernel
theorem dL_420 : decode code 420 = .ok (.iconst 1, 1) := by decide +kernel
theorem dL_421 : decode code 421 = .ok (.iadd, 1) := by decide +kernel
theorem dL_422 : decode code 422 = .ok (.iaload, 1) := by decide +kernel
theorem dL_423 : decode code 423 = .ok (.invokevirtual 44, 3) := by decide +kernel
theorem dL_426 : decode code 426 = .ok (.if_icmp .eq 905, 3) := by decide +kernel
theorem dL_429 : decode code 429 = .ok (.iconst 0, 1) := by decide +kernel
theorem dL_430 : decode code 430 = .ok (.ireturn, 1) := by decide +kernel
theorem dL_431 : decode code 431 = .ok (.aload_n 1, 1) := by decide +kernel
theorem dL_432 : decode code 432 = .ok (.aload_n 0, 1) := by decide +kernel
theorem dL_433 : decode code 433 = .ok (.iload_n 3, 1) := by decide +kernel
theorem dL_434 : decode code 434 = .ok (.iconst 1, 1) := by decide +kernel
theorem dL_435 : decode code 435 = .ok (.iadd, 1) := by decide +kernel
theorem dL_436 : decode code 436 = .ok (.iaload, 1) := by decide +kernel
theorem dL_437 : decode code 437 = .ok (.aload_n 0, 1) := by decide +kernel
theorem dL_438 : decode code 438 = .ok (.iload_n 3, 1) := by decide +kernel
theorem dL_439 : decode code 439 = .ok (.iconst 2, 1) := by decide +kernel
theorem dL_440 : decode code 440 = .ok (.iadd, 1) := by decide +kernel
theorem dL_441 : decode code 441 = .ok (.iaload, 1) := by decide +kernel
theorem dL_442 : decode code 442 = .ok (.aload_n 0, 1) := by decide +kernel
theorem dL_443 : decode code 443 = .ok (.iload_n 3, 1) := by decide +kernel
theorem dL_444 : decode code 444 = .ok (.iconst 3, 1) := by decide +kernel
theorem dL_445 : decode code 445 = .ok (.iadd, 1) := by decide +kernel
theorem dL_446 : decode code 446 = .ok (.iaload, 1) := by decide +kernel
theorem dL_447 : decode code 447 = .ok (.invokevirtual 45, 3) := by decide +kernel
theorem dL_450 : decode code 450 = .ok (.aload_n 2, 1) := by decide +kernel
theorem dL_451 : decode code 451 = .ok (.aload_n 0, 1) := by decide +kernel
theorem dL_452 : decode code 452 = .ok (.iload_n 3, 1) := by decide +kernel
theorem dL_453 : decode code 453 = .ok (.iconst 1, 1) := by decide +kernel
theorem dL_454 : decode code 454 = .ok (.iadd, 1) := by decide +kernel
theorem dL_455 : decode code 455 = .ok (.iaload, 1) := by decide +kernel
theorem dL_456 : decode code 456 = .ok (.aload_n 0, 1) := by decide +kernel
theorem dL_457 : decode code 457 = .ok (.iload_n 3, 1) := by decide +kernel
theorem dL_458 : decode code 458 = .ok (.iconst 2, 1) := by decide +kernel
theorem dL_459 : decode code 459 = .ok (.iadd, 1) := by decide +kernel
theorem dL_460 : decode code 460 = .ok (.iaload, 1) := by decide +kernel
theorem dL_461 : decode code 461 = .ok (.aload_n 0, 1) := by decide +kernel
theorem dL_462 : decode code 462 = .ok (.iload_n 3, 1) := by decide +kernel
theorem dL_463 : decode code 463 = .ok (.iconst 3, 1) := by decide +kernel
theorem dL_464 : decode code 464 = .ok (.iadd, 1) := by decide +kernel
theorem dL_465 : decode code 465 = .ok (.iaload, 1) := by decide +kernel
theorem dL_466 : decode code 466 = .ok (.invokevirtual 48, 3) := by decide +kernel
theorem dL_469 : decode code 469 = .ok (.if_icmp .eq 862, 3) := by decide +kernel
theorem dL_472 : decode code 472 = .ok (.iconst 0, 1) := by decide +kernel
theorem dL_473 : decode code 473 = .ok (.ireturn, 1) := by decide +kernel
theorem dL_474 : decode code 474 = .ok (.aload_n 1, 1) := by decide +kernel
theorem dL_475 : decode code 475 = .ok (.aload_n 0, 1) := by decide +kernel
theorem dL_476 : decode code 476 = .ok (.iload_n 3, 1) := by decide +kernel
theorem dL_477 : decode code 477 = .ok (.iconst 1, 1) := by decide +kernel
theorem dL_478 : decode code 478 = .ok (.iadd, 1) := by decide +kernel
theorem dL_479 : decode code 479 = .ok (.iaload, 1) := by decide +kernel
theorem dL_480 : decode code 480 = .ok (.invokevirtual 49, 3) := by decide +kernel
theorem dL_483 : decode code 483 = .ok (.aload_n 2, 1) := by decide +kernel
theorem dL_484 : decode code 484 = .ok (.aload_n 0, 1) := by decide +kernel
theorem dL_485 : decode code 485 = .ok (.iload_n 3, 1) := by decide +kernel
theorem dL_486 : decode code 486 = .ok (.iconst 1, 1) := by decide +kernel
theorem dL_487 : decode code 487 = .ok (.iadd, 1) := by decide +kernel
theorem dL_488 : decode code 488 = .ok (.iaload, 1) := by decide +kernel
theorem dL_489 : decode code 489 = .ok (.invokevirtual 52, 3) := by decide +kernel
theorem dL_492 : decode code 492 = .ok (.if_icmp .eq 839, 3) := by decide +kernel
theorem dL_495 : decode code 495 = .ok (.iconst 0, 1) := by decide +kernel
theorem dL_496 : decode code 496 = .ok (.ireturn, 1) := by decide +kernel
theorem dL_497 : decode code 497 = .ok (.aload_n 1, 1) := by decide +kernel
theorem dL_498 : decode code 498 = .ok (.invokevirtual 53, 3) := by decide +kernel
theorem dL_501 : decode code 501 = .ok (.aload_n 2, 1) := by decide +kernel
theorem dL_502 : decode code 502 = .ok (.invokevirtual 57, 3) := by decide +kernel
theorem dL_505 : decode code 505 = .ok (.if_icmp .eq 826, 3) := by decide +kernel
theorem dL_508 : decode code 508 = .ok (.iconst 0, 1) := by decide +kernel
theorem dL_509 : decode code 509 = .ok (.ireturn, 1) := by decide +kernel
theorem dL_510 : decode code 510 = .ok (.aload_n 1, 1) := by decide +kernel
theorem dL_511 : decode code 511 = .ok (.aload_n 0, 1) := by decide +kernel
theorem dL_512 : decode code 512 = .ok (.iload_n 3, 1) := by decide +kernel
theorem dL_513 : decode code 513 = .ok (.iconst 1, 1) := by decide +kernel
theorem dL_514 : decode code 514 = .ok (.iadd, 1) := by decide +kernel
theorem dL_515 : decode code 515 = .ok (.iaload, 1) := by decide +kernel
theorem dL_516 : decode code 516 = .ok (.invokevirtual 58, 3) := by decide +kernel
theorem dL_519 : decode code 519 = .ok (.aload_n 2, 1) := by decide +kernel
theorem dL_520 : decode code 520 = .ok (.aload_n 0, 1) := by decide +kernel
theorem dL_521 : decode code 521 = .ok (.iload_n 3, 1) := by decide +kernel
theorem dL_522 : decode code 522 = .ok (.iconst 1, 1) := by decide +kernel
theorem dL_523 : decode code 523 = .ok (.iadd, 1) := by decide +kernel
theorem dL_524 : decode code 524 = .ok (.iaload, 1) := by decide +kernel
theorem dL_525 : decode code 525 = .ok (.invokevirtual 61, 3) := by decide +kernel
theorem dL_528 : decode code 528 = .ok (.if_icmp .eq 803, 3) := by decide +kernel
theorem dL_531 : decode code 531 = .ok (.iconst 0, 1) := by decide +kernel
theorem dL_532 : decode code 532 = .ok (.ireturn, 1) := by decide +kernel
theorem dL_533 : decode code 533 = .ok (.aload_n 1, 1) := by decide +kernel
theorem dL_534 : decode code 534 = .ok (.aload_n 0, 1) := by decide +kernel
theorem dL_535 : decode code 535 = .ok (.iload_n 3, 1) := by decide +kernel
theorem dL_536 : decode code 536 = .ok (.iconst 1, 1) := by decide +kernel
theorem dL_537 : decode code 537 = .ok (.iadd, 1) := by decide +kernel
theorem dL_538 : decode code 538 = .ok (.iaload, 1) := by decide +kernel
theorem dL_539 : decode code 539 = .ok (.invokevirtual 62, 3) := by decide +kernel
theorem dL_542 : decode code 542 = .ok (.aload_n 2, 1) := by decide +kernel
theorem dL_543 : decode code 543 = .ok (.aload_n 0, 1) := by decide +kernel
theorem dL_544 : decode code 544 = .ok (.iload_n 3, 1) := by decide +kernel
theorem dL_545 : decode code 545 = .ok (.iconst 1, 1) := by decide +kernel
theorem dL_546 : decode code 546 = .ok (.iadd, 1) := by decide +kernel
theorem dL_547 : decode code 547 = .ok (.iaload, 1) := by decide +kernel
theorem dL_548 : decode code 548 = .ok (.invokevirtual 65, 3) := by decide +kernel
theorem dL_551 : decode code 551 = .ok (.if_icmp .eq 780, 3) := by decide +kernel
theorem dL_554 : decode code 554 = .ok (.iconst 0, 1) := by decide +kernel
theorem dL_555 : decode code 555 = .ok (.ireturn, 1) := by decide +kernel
theorem dL_556 : decode code 556 = .ok (.aload_n 1, 1) := by decide +kernel
theorem dL_557 : decode code 557 = .ok (.aload_n 0, 1) := by decide +kernel
theorem dL_558 : decode code 558 = .ok (.iload_n 3, 1) := by decide +kernel
theorem dL_559 : decode code 559 = .ok (.iconst 1, 1) := by decide +kernel
theorem dL_560 : decode code 560 = .ok (.iadd, 1) := by decide +kernel
theorem dL_561 : decode code 561 = .ok (.iaload, 1) := by decide +kernel
theorem dL_562 : decode code 562 = .ok (.aload_n 0, 1) := by decide +kernel
theorem dL_563 : decode code 563 = .ok (.iload_n 3, 1) := by decide +kernel
theorem dL_564 : decode code 564 = .ok (.iconst 2, 1) := by decide +kernel
theorem dL_565 : decode code 565 = .ok (.iadd, 1) := by decide +kernel
theorem dL_566 : decode code 566 = .ok (.iaload, 1) := by decide +kernel
theorem dL_567 : decode code 567 = .ok (.invokevirtual 66, 3) := by decide +kernel
theorem dL_570 : decode code 570 = .ok (.aload_n 2, 1) := by decide +kernel
theorem dL_571 : decode code 571 = .ok (.aload_n 0, 1) := by decide +kernel
theorem dL_572 : decode code 572 = .ok (.iload_n 3, 1) := by decide +kernel
theorem dL_573 : decode code 573 = .ok (.iconst 1, 1) := by decide +kernel
theorem dL_574 : decode code 574 = .ok (.iadd, 1) := by decide +kernel
theorem dL_575 : decode code 575 = .ok (.iaload, 1) := by decide +kernel
theorem dL_576 : decode code 576 = .ok (.aload_n 0, 1) := by decide +kernel
theorem dL_577 : decode code 577 = .ok (.iload_n 3, 1) := by decide +kernel
theorem dL_578 : decode code 578 = .ok (.iconst 2, 1) := by decide +kernel
theorem dL_579 : decode code 579 = .ok (.iadd, 1) := by decide +kernel
theorem dL_580 : decode code 580 = .ok (.iaload, 1) := by decide +kernel
theorem dL_581 : decode code 581 = .ok (.invokevirtual 69, 3) := by decide +kernel
theorem dL_584 : decode code 584 = .ok (.if_icmp .eq 747, 3) := by decide +kernel
theorem dL_587 : decode code 587 = .ok (.iconst 0, 1) := by decide +kernel
theorem dL_588 : decode code 588 = .ok (.ireturn, 1) := by decide +kernel
theorem dL_589 : decode code 589 = .ok (.aload_n 1, 1) := by decide +kernel
theorem dL_590 : decode code 590 = .ok (.aload_n 0, 1) := by decide +kernel
theorem dL_591 : decode code 591 = .ok (.iload_n 3, 1) := by decide +kernel
theorem dL_592 : decode code 592 = .ok (.iconst 1, 1) := by decide +kernel
theorem dL_593 : decode code 593 = .ok (.iadd, 1) := by decide +kernel
theorem dL_594 : decode code 594 = .ok (.iaload, 1) := by decide +kernel
theorem dL_595 : decode code 595 = .ok (.aload_n 0, 1) := by decide +kernel
theorem dL_596 : decode code 596 = .ok (.iload_n 3, 1) := by decide +kernel
theorem dL_597 : decode code 597 = .ok (.iconst 2, 1) := by decide +kernel
theorem dL_598 : decode code 598 = .ok (.iadd, 1) := by decide +kernel
theorem dL_599 : decode code 599 = .ok (.iaload, 1) := by decide +kernel
theorem dL_600 : decode code 600 = .ok (.invokevirtual 70, 3) := by decide +kernel
theorem dL_603 : decode code 603 = .ok (.aload_n 2, 1) := by decide +kernel
theorem dL_604 : decode code 604 = .ok (.aload_n 0, 1) := by decide +kernel
theorem dL_605 : decode code 605 = .ok (.iload_n 3, 1) := by decide +kernel
theorem dL_606 : decode code 606 = .ok (.iconst 1, 1) := by decide +kernel
theorem dL_607 : decode code 607 = .ok (.iadd, 1) := by decide +kernel
theorem dL_608 : decode code 608 = .ok (.iaload, 1) := by decide +kernel
theorem dL_609 : decode code 609 = .ok (.aload_n 0, 1) := by decide +kernel
theorem dL_610 : decode code 610 = .ok (.iload_n 3, 1) := by decide +kernel
theorem dL_611 : decode code 611 = .ok (.iconst 2, 1) := by decide +kernel
theorem dL_612 : decode code 612 = .ok (.iadd, 1) := by decide +kernel
theorem dL_613 : decode code 613 = .ok (.iaload, 1) := by decide +kernel
theorem dL_614 : decode code 614 = .ok (.invokevirtual 73, 3) := by decide +kernel
theorem dL_617 : decode code 617 = .ok (.if_icmp .eq 714, 3) := by decide +kernel
theorem dL_620 : decode code 620 = .ok (.iconst 0, 1) := by decide +kernel
theorem dL_621 : decode code 621 = .ok (.ireturn, 1) := by decide +kernel
theorem dL_622 : decode code 622 = .ok (.aload_n 1, 1) := by decide +kernel
theorem dL_623 : decode code 623 = .ok (.aload_n 0, 1) := by decide +kernel
theorem dL_624 : decode code 624 = .ok (.iload_n 3, 1) := by decide +kernel
theorem dL_625 : decode code 625 = .ok (.iconst 1, 1) := by decide +kernel
theorem dL_626 : decode code 626 = .ok (.iadd, 1) := by decide +kernel
theorem dL_627 : decode code 627 = .ok (.iaload, 1) := by decide +kernel
theorem dL_628 : decode code 628 = .ok (.aload_n 0, 1) := by decide +kernel
theorem dL_629 : decode code 629 = .ok (.iload_n 3, 1) := by decide +kernel
theorem dL_630 : decode code 630 = .ok (.iconst 2, 1) := by decide +kernel
theorem dL_631 : decode code 631 = .ok (.iadd, 1) := by decide +kernel
theorem dL_632 : decode code 632 = .ok (.iaload, 1) := by decide +kernel
theorem dL_633 : decode code 633 = .ok (.invokevirtual 74, 3) := by decide +kernel
theorem dL_636 : decode code 636 = .ok (.aload_n 2, 1) := by decide +kernel
theorem dL_637 : decode code 637 = .ok (.aload_n 0, 1) := by decide +kernel
theorem dL_638 : decode code 638 = .ok (.iload_n 3, 1) := by decide +kernel
theorem dL_639 : decode code 639 = .ok (.iconst 1, 1) := by decide +kernel
theorem dL_640 : decode code 640 = .ok (.iadd, 1) := by decide +kernel
theorem dL_641 : decode code 641 = .ok (.iaload, 1) := by decide +kernel
theorem dL_642 : decode code 642 = .ok (.aload_n 0, 1) := by decide +kernel
theorem dL_643 : decode code 643 = .ok (.iload_n 3, 1) := by decide +kernel
theorem dL_644 : decode code 644 = .ok (.iconst 2, 1) := by decide +kernel
theorem dL_645 : decode code 645 = .ok (.iadd, 1) := by decide +kernel
theorem dL_646 : decode code 646 = .ok (.iaload, 1) := by decide +kernel
theorem dL_647 : decode code 647 = .ok (.invokevirtual 77, 3) := by decide +kernel
theorem dL_650 : decode code 650 = .ok (.if_icmp .eq 681, 3) := by decide +kernel
theorem dL_653 : decode code 653 = .ok (.iconst 0, 1) := by decide +kernel
theorem dL_654 : decode code 654 = .ok (.ireturn, 1) := by decide +kernel
theorem dL_655 : decode code 655 = .ok (.aload_n 1, 1) := by decide +kernel
theorem dL_656 : decode code 656 = .ok (.aload_n 0, 1) := by decide +kernel
theorem dL_657 : decode code 657 = .ok (.iload_n 3, 1) := by decide +kernel
theorem dL_658 : decode code 658 = .ok (.iconst 1, 1) := by decide +kernel
theorem dL_659 : decode code 659 = .ok (.iadd, 1) := by decide +kernel
theorem dL_660 : decode code 660 = .ok (.iaload, 1) := by decide +kernel
theorem dL_661 : decode code 661 = .ok (.aload_n 0, 1) := by decide +kernel
theorem dL_662 : decode code 662 = .ok (.iload_n 3, 1) := by decide +kernel
theorem dL_663 : decode code 663 = .ok (.iconst 2, 1) := by decide +kernel
theorem dL_664 : decode code 664 = .ok (.iadd, 1) := by decide +kernel
theorem dL_665 : decode code 665 = .ok (.iaload, 1) := by decide +kernel
theorem dL_666 : decode code 666 = .ok (.aload_n 0, 1) := by decide +kernel
theorem dL_667 : decode code 667 = .ok (.iload_n 3, 1) := by decide +kernel
theorem dL_668 : decode code 668 = .ok (.iconst 3, 1) := by decide +kernel
theorem dL_669 : decode code 669 = .ok (.iadd, 1) := by decide +kernel
theorem dL_670 : decode code 670 = .ok (.iaload, 1) := by decide +kernel
theorem dL_671 : decode code 671 = .ok (.ifCond .eq 7, 3) := by decide +kernel
theorem dL_674 : decode code 674 = .ok (.iconst 1, 1) := by decide +kernel
theorem dL_675 : decode code 675 = .ok (.goto 4, 3) := by decide +kernel
theorem dL_678 : decode code 678 = .ok (.iconst 0, 1) := by decide +kernel
theorem dL_679 : decode code 679 = .ok (.invokevirtual 78, 3) := by decide +kernel
theorem dL_682 : decode code 682 = .ok (.aload_n 2, 1) := by decide +kernel
theorem dL_683 : decode code 683 = .ok (.aload_n 0, 1) := by decide +kernel
theorem dL_684 : decode code 684 = .ok (.iload_n 3, 1) := by decide +kernel
theorem dL_685 : decode code 685 = .ok (.iconst 1, 1) := by decide +kernel
theorem dL_686 : decode code 686 = .ok (.iadd, 1) := by decide +kernel
theorem dL_687 : decode code 687 = .ok (.iaload, 1) := by decide +kernel
theorem dL_688 : decode code 688 = .ok (.aload_n 0, 1) := by decide +kernel
theorem dL_689 : decode code 689 = .ok (.iload_n 3, 1) := by decide +kernel
theorem dL_690 : decode code 690 = .ok (.iconst 2, 1) := by decide +kernel
theorem dL_691 : decode code 691 = .ok (.iadd, 1) := by decide +kernel
theorem dL_692 : decode code 692 = .ok (.iaload, 1) := by decide +kernel
theorem dL_693 : decode code 693 = .ok (.aload_n 0, 1) := by decide +kernel
theorem dL_694 : decode code 694 = .ok (.iload_n 3, 1) := by decide +kernel
theorem dL_695 : decode code 695 = .ok (.iconst 3, 1) := by decide +kernel
theorem dL_696 : decode code 696 = .ok (.iadd, 1) := by decide +kernel
theorem dL_697 : decode code 697 = .ok (.iaload, 1) := by decide +kernel
theorem dL_698 : decode code 698 = .ok (.ifCond .eq 7, 3) := by decide +kernel
theorem dL_701 : decode code 701 = .ok (.iconst 1, 1) := by decide +kernel
theorem dL_702 : decode code 702 = .ok (.goto 4, 3) := by decide +kernel
theorem dL_705 : decode code 705 = .ok (.iconst 0, 1) := by decide +kernel
theorem dL_706 : decode code 706 = .ok (.invokevirtual 82, 3) := by decide +kernel
theorem dL_709 : decode code 709 = .ok (.if_icmp .eq 622, 3) := by decide +kernel
theorem dL_712 : decode code 712 = .ok (.iconst 0, 1) := by decide +kernel
theorem dL_713 : decode code 713 = .ok (.ireturn, 1) := by decide +kernel
theorem dL_714 : decode code 714 = .ok (.aload_n 1, 1) := by decide +kernel
theorem dL_715 : decode code 715 = .ok (.aload_n 0, 1) := by decide +kernel
theorem dL_716 : decode code 716 = .ok (.iload_n 3, 1) := by decide +kernel
theorem dL_717 : decode code 717 = .ok (.iconst 1, 1) := by decide +kernel
theorem dL_718 : decode code 718 = .ok (.iadd, 1) := by decide +kernel
theorem dL_719 : decode code 719 = .ok (.iaload, 1) := by decide +kernel
theorem dL_720 : decode code 720 = .ok (.aload_n 0, 1) := by decide +kernel
theorem dL_721 : decode code 721 = .ok (.iload_n 3, 1) := by decide +kernel
theorem dL_722 : decode code 722 = .ok (.iconst 2, 1) := by decide +kernel
theorem dL_723 : decode code 723 = .ok (.iadd, 1) := by decide +kernel
theorem dL_724 : decode code 724 = .ok (.iaload, 1) := by decide +kernel
theorem dL_725 : decode code 725 = .ok (.aload_n 0, 1) := by decide +kernel
theorem dL_726 : decode code 726 = .ok (.iload_n 3, 1) := by decide +kernel
theorem dL_727 : decode code 727 = .ok (.iconst 3, 1) := by decide +kernel
theorem dL_728 : decode code 728 = .ok (.iadd, 1) := by decide +kernel
theorem dL_729 : decode code 729 = .ok (.iaload, 1) := by decide +kernel
theorem dL_730 : decode code 730 = .ok (.invokevirtual 83, 3) := by decide +kernel
theorem dL_733 : decode code 733 = .ok (.aload_n 2, 1) := by decide +kernel
theorem dL_734 : decode code 734 = .ok (.aload_n 0, 1) := by decide +kernel
theorem dL_735 : decode code 735 = .ok (.iload_n 3, 1) := by decide +kernel
theorem dL_736 : decode code 736 = .ok (.iconst 1, 1) := by decide +kernel
theorem dL_737 : decode code 737 = .ok (.iadd, 1) := by decide +kernel
theorem dL_738 : decode code 738 = .ok (.iaload, 1) := by decide +kernel
theorem dL_739 : decode code 739 = .ok (.aload_n 0, 1) := by decide +kernel
theorem dL_740 : decode code 740 = .ok (.iload_n 3, 1) := by decide +kernel
theorem dL_741 : decode code 741 = .ok (.iconst 2, 1) := by decide +kernel
theorem dL_742 : decode code 742 = .ok (.iadd, 1) := by decide +kernel
theorem dL_743 : decode code 743 = .ok (.iaload, 1) := by decide +kernel
theorem dL_744 : decode code 744 = .ok (.aload_n 0, 1) := by decide +kernel
theorem dL_745 : decode code 745 = .ok (.iload_n 3, 1) := by decide +kernel
theorem dL_746 : decode code 746 = .ok (.iconst 3, 1) := by decide +kernel
theorem dL_747 : decode code 747 = .ok (.iadd, 1) := by decide +kernel
theorem dL_748 : decode code 748 = .ok (.iaload, 1) := by decide +kernel
theorem dL_749 : decode code 749 = .ok (.invokevirtual 86, 3) := by decide +kernel
theorem dL_752 : decode code 752 = .ok (.if_icmp .eq 579, 3) := by decide +kernel
theorem dL_755 : decode code 755 = .ok (.iconst 0, 1) := by decide +kernel
theorem dL_756 : decode code 756 = .ok (.ireturn, 1) := by decide +kernel
theorem dL_757 : decode code 757 = .ok (.aload_n 1, 1) := by decide +kernel
theorem dL_758 : decode code 758 = .ok (.aload_n 0, 1) := by decide +kernel
theorem dL_759 : decode code 759 = .ok (.iload_n 3, 1) := by decide +kernel
theorem dL_760 : decode code 760 = .ok (.iconst 1, 1) := by decide +kernel
theorem dL_761 : decode code 761 = .ok (.iadd, 1) := by decide +kernel
theorem dL_762 : decode code 762 = .ok (.iaload, 1) := by decide +kernel
theorem dL_763 : decode code 763 = .ok (.aload_n 0, 1) := by decide +kernel
theorem dL_764 : decode code 764 = .ok (.iload_n 3, 1) := by decide +kernel
theorem dL_765 : decode code 765 = .ok (.iconst 2, 1) := by decide +kernel
theorem dL_766 : decode code 766 = .ok (.iadd, 1) := by decide +kernel
theorem dL_767 : decode code 767 = .ok (.iaload, 1) := by decide +kernel
theorem dL_768 : decode code 768 = .ok (.aload_n 0, 1) := by decide +kernel
theorem dL_769 : decode code 769 = .ok (.iload_n 3, 1) := by decide +kernel
theorem dL_770 : decode code 770 = .ok (.iconst 3, 1) := by decide +kernel
theorem dL_771 : decode code 771 = .ok (.iadd, 1) := by decide +kernel
theorem dL_772 : decode code 772 = .ok (.iaload, 1) := by decide +kernel
theorem dL_773 : decode code 773 = .ok (.invokevirtual 87, 3) := by decide +kernel
theorem dL_776 : decode code 776 = .ok (.aload_n 2, 1) := by decide +kernel
theorem dL_777 : decode code 777 = .ok (.aload_n 0, 1) := by decide +kernel
theorem dL_778 : decode code 778 = .ok (.iload_n 3, 1) := by decide +kernel
theorem dL_779 : decode code 779 = .ok (.iconst 1, 1) := by decide +kernel
theorem dL_780 : decode code 780 = .ok (.iadd, 1) := by decide +kernel
theorem dL_781 : decode code 781 = .ok (.iaload, 1) := by decide +kernel
theorem dL_782 : decode code 782 = .ok (.aload_n 0, 1) := by decide +kernel
theorem dL_783 : decode code 783 = .ok (.iload_n 3, 1) := by decide +kernel
theorem dL_784 : decode code 784 = .ok (.iconst 2, 1) := by decide +kernel
theorem dL_785 : decode code 785 = .ok (.iadd, 1) := by decide +kernel
theorem dL_786 : decode code 786 = .ok (.iaload, 1) := by decide +kernel
theorem dL_787 : decode code 787 = .ok (.aload_n 0, 1) := by decide +kernel
theorem dL_788 : decode code 788 = .ok (.iload_n 3, 1) := by decide +kernel
theorem dL_789 : decode code 789 = .ok (.iconst 3, 1) := by decide +kernel
theorem dL_790 : decode code 790 = .ok (.iadd, 1) := by decide +kernel
theorem dL_791 : decode code 791 = .ok (.iaload, 1) := by decide +kernel
theorem dL_792 : decode code 792 = .ok (.invokevirtual 91, 3) := by decide +kernel
theorem dL_795 : decode code 795 = .ok (.lcmp, 1) := by decide +kernel
theorem dL_796 : decode code 796 = .ok (.ifCond .eq 535, 3) := by decide +kernel
theorem dL_799 : decode code 799 = .ok (.iconst 0, 1) := by decide +kernel
theorem dL_800 : decode code 800 = .ok (.ireturn, 1) := by decide +kernel
theorem dL_801 : decode code 801 = .ok (.aload_n 1, 1) := by decide +kernel
theorem dL_802 : decode code 802 = .ok (.aload_n 0, 1) := by decide +kernel
theorem dL_803 : decode code 803 = .ok (.iload_n 3, 1) := by decide +kernel
theorem dL_804 : decode code 804 = .ok (.iconst 1, 1) := by decide +kernel
theorem dL_805 : decode code 805 = .ok (.iadd, 1) := by decide +kernel
theorem dL_806 : decode code 806 = .ok (.iaload, 1) := by decide +kernel
theorem dL_807 : decode code 807 = .ok (.aload_n 0, 1) := by decide +kernel
theorem dL_808 : decode code 808 = .ok (.iload_n 3, 1) := by decide +kernel
theorem dL_809 : decode code 809 = .ok (.iconst 2, 1) := by decide +kernel
theorem dL_810 : decode code 810 = .ok (.iadd, 1) := by decide +kernel
theorem dL_811 : decode code 811 = .ok (.iaload, 1) := by decide +kernel
theorem dL_812 : decode code 812 = .ok (.invokevirtual 92, 3) := by decide +kernel
theorem dL_815 : decode code 815 = .ok (.aload_n 2, 1) := by decide +kernel
theorem dL_816 : decode code 816 = .ok (.aload_n 0, 1) := by decide +kernel
theorem dL_817 : decode code 817 = .ok (.iload_n 3, 1) := by decide +kernel
theorem dL_818 : decode code 818 = .ok (.iconst 1, 1) := by decide +kernel
theorem dL_819 : decode code 819 = .ok (.iadd, 1) := by decide +kernel
theorem dL_820 : decode code 820 = .ok (.iaload, 1) := by decide +kernel
theorem dL_821 : decode code 821 = .ok (.aload_n 0, 1) := by decide +kernel
theorem dL_822 : decode code 822 = .ok (.iload_n 3, 1) := by decide +kernel
theorem dL_823 : decode code 823 = .ok (.iconst 2, 1) := by decide +kernel
theorem dL_824 : decode code 824 = .ok (.iadd, 1) := by decide +kernel
theorem dL_825 : decode code 825 = .ok (.iaload, 1) := by decide +kernel
theorem dL_826 : decode code 826 = .ok (.invokevirtual 96, 3) := by decide +kernel
theorem dL_829 : decode code 829 = .ok (.lcmp, 1) := by decide +kernel
theorem dL_830 : decode code 830 = .ok (.ifCond .eq 501, 3) := by decide +kernel
theorem dL_833 : decode code 833 = .ok (.iconst 0, 1) := by decide +kernel
theorem dL_834 : decode code 834 = .ok (.ireturn, 1) := by decide +kernel
theorem dL_835 : decode code 835 = .ok (.aload_n 1, 1) := by decide +kernel
theorem dL_836 : decode code 836 = .ok (.aload_n 0, 1) := by decide +kernel
theorem dL_837 : decode code 837 = .ok (.iload_n 3, 1) := by decide +kernel
theorem dL_838 : decode code 838 = .ok (.iconst 1, 1) := by decide +kernel
theorem dL_839 : decode code 839 = .ok (.iadd, 1) := by decide +kernel
theorem dL_840 : decode code 840 = .ok (.iaload, 1) := by decide +kernel
theorem dL_841 : decode code 841 = .ok (.aload_n 0, 1) := by decide +kernel
theorem dL_842 : decode code 842 = .ok (.iload_n 3, 1) := by decide +kernel
theorem dL_843 : decode code 843 = .ok (.iconst 2, 1) := by decide +kernel
theorem dL_844 : decode code 844 = .ok (.iadd, 1) := by decide +kernel
theorem dL_845 : decode code 845 = .ok (.iaload, 1) := by decide +kernel
theorem dL_846 : decode code 846 = .ok (.invokevirtual 97, 3) := by decide +kernel
theorem dL_849 : decode code 849 = .ok (.aload_n 2, 1) := by decide +kernel
theorem dL_850 : decode code 850 = .ok (.aload_n 0, 1) := by decide +kernel
theorem dL_851 : decode code 851 = .ok (.iload_n 3, 1) := by decide +kernel
theorem dL_852 : decode code 852 = .ok (.iconst 1, 1) := by decide +kernel
theorem dL_853 : decode code 853 = .ok (.iadd, 1) := by decide +kernel
theorem dL_854 : decode code 854 = .ok (.iaload, 1) := by decide +kernel
theorem dL_855 : decode code 855 = .ok (.aload_n 0, 1) := by decide +kernel
theorem dL_856 : decode code 856 = .ok (.iload_n 3, 1) := by decide +kernel
theorem dL_857 : decode code 857 = .ok (.iconst 2, 1) := by decide +kernel
theorem dL_858 : decode code 858 = .ok (.iadd, 1) := by decide +kernel
theorem dL_859 : decode code 859 = .ok (.iaload, 1) := by decide +kernel
theorem dL_860 : decode code 860 = .ok (.invokevirtual 100, 3) := by decide +kernel
theorem dL_863 : decode code 863 = .ok (.if_icmp .eq 468, 3) := by decide +kernel
theorem dL_866 : decode code 866 = .ok (.iconst 0, 1) := by decide +kernel
theorem dL_867 : decode code 867 = .ok (.ireturn, 1) := by decide +kernel
theorem dL_868 : decode code 868 = .ok (.aload_n 1, 1) := by decide +kernel
theorem dL_869 : decode code 869 = .ok (.aload_n 0, 1) := by decide +kernel
theorem dL_870 : decode code 870 = .ok (.iload_n 3, 1) := by decide +kernel
theorem dL_871 : decode code 871 = .ok (.iconst 1, 1) := by decide +kernel
theorem dL_872 : decode code 872 = .ok (.iadd, 1) := by decide +kernel
theorem dL_873 : decode code 873 = .ok (.iaload, 1) := by decide +kernel
theorem dL_874 : decode code 874 = .ok (.invokevirtual 101, 3) := by decide +kernel
theorem dL_877 : decode code 877 = .ok (.aload_n 2, 1) := by decide +kernel
theorem dL_878 : decode code 878 = .ok (.aload_n 0, 1) := by decide +kernel
theorem dL_879 : decode code 879 = .ok (.iload_n 3, 1) := by decide +kernel
theorem dL_880 : decode code 880 = .ok (.iconst 1, 1) := by decide +kernel
theorem dL_881 : decode code 881 = .ok (.iadd, 1) := by decide +kernel
theorem dL_882 : decode code 882 = .ok (.iaload, 1) := by decide +kernel
theorem dL_883 : decode code 883 = .ok (.invokevirtual 104, 3) := by decide +kernel
theorem dL_886 : decode code 886 = .ok (.if_icmp .eq 445, 3) := by decide +kernel
theorem dL_889 : decode code 889 = .ok (.iconst 0, 1) := by decide +kernel
theorem dL_890 : decode code 890 = .ok (.ireturn, 1) := by decide +kernel
theorem dL_891 : decode code 891 = .ok (.aload_n 1, 1) := by decide +kernel
theorem dL_892 : decode code 892 = .ok (.aload_n 0, 1) := by decide +kernel
theorem dL_893 : decode code 893 = .ok (.iload_n 3, 1) := by decide +kernel
theorem dL_894 : decode code 894 = .ok (.iconst 1, 1) := by decide +kernel
theorem dL_895 : decode code 895 = .ok (.iadd, 1) := by decide +kernel
theorem dL_896 : decode code 896 = .ok (.iaload, 1) := by decide +kernel
theorem dL_897 : decode code 897 = .ok (.aload_n 0, 1) := by decide +kernel
theorem dL_898 : decode code 898 = .ok (.iload_n 3, 1) := by decide +kernel
theorem dL_899 : decode code 899 = .ok (.iconst 2, 1) := by decide +kernel
theorem dL_900 : decode code 900 = .ok (.iadd, 1) := by decide +kernel
theorem dL_901 : decode code 901 = .ok (.iaload, 1) := by decide +kernel
theorem dL_902 : decode code 902 = .ok (.invokevirtual 105, 3) := by decide +kernel
theorem dL_905 : decode code 905 = .ok (.aload_n 2, 1) := by decide +kernel
theorem dL_906 : decode code 906 = .ok (.aload_n 0, 1) := by decide +kernel
theorem dL_907 : decode code 907 = .ok (.iload_n 3, 1) := by decide +kernel
theorem dL_908 : decode code 908 = .ok (.iconst 1, 1) := by decide +kernel
theorem dL_909 : decode code 909 = .ok (.iadd, 1) := by decide +kernel
theorem dL_910 : decode code 910 = .ok (.iaload, 1) := by decide +kernel
theorem dL_911 : decode code 911 = .ok (.aload_n 0, 1) := by decide +kernel
theorem dL_912 : decode code 912 = .ok (.iload_n 3, 1) := by decide +kernel
theorem dL_913 : decode code 913 = .ok (.iconst 2, 1) := by decide +kernel
theorem dL_914 : decode code 914 = .ok (.iadd, 1) := by decide +kernel
theorem dL_915 : decode code 915 = .ok (.iaload, 1) := by decide +kernel
theorem dL_916 : decode code 916 = .ok (.invokevirtual 108, 3) := by decide +kernel
theorem dL_919 : decode code 919 = .ok (.if_icmp .eq 412, 3) := by decide +kernel
theorem dL_922 : decode code 922 = .ok (.iconst 0, 1) := by decide +kernel
theorem dL_923 : decode code 923 = .ok (.ireturn, 1) := by decide +kernel
theorem dL_924 : decode code 924 = .ok (.aload_n 1, 1) := by decide +kernel
theorem dL_925 : decode code 925 = .ok (.invokevirtual 109, 3) := by decide +kernel
theorem dL_928 : decode code 928 = .ok (.aload_n 2, 1) := by decide +kernel
theorem dL_929 : decode code 929 = .ok (.invokevirtual 112, 3) := by decide +kernel
theorem dL_932 : decode code 932 = .ok (.if_icmp .eq 399, 3) := by decide +kernel
theorem dL_935 : decode code 935 = .ok (.iconst 0, 1) := by decide +kernel
theorem dL_936 : decode code 936 = .ok (.ireturn, 1) := by decide +kernel
theorem dL_937 : decode code 937 = .ok (.aload_n 1, 1) := by decide +kernel
theorem dL_938 : decode code 938 = .ok (.aload_n 0, 1) := by decide +kernel
theorem dL_939 : decode code 939 = .ok (.iload_n 3, 1) := by decide +kernel
theorem dL_940 : decode code 940 = .ok (.iconst 1, 1) := by decide +kernel
theorem dL_941 : decode code 941 = .ok (.iadd, 1) := by decide +kernel
theorem dL_942 : decode code 942 = .ok (.iaload, 1) := by decide +kernel
theorem dL_943 : decode code 943 = .ok (.aload_n 0, 1) := by decide +kernel
theorem dL_944 : decode code 944 = .ok (.iload_n 3, 1) := by decide +kernel
theorem dL_945 : decode code 945 = .ok (.iconst 2, 1) := by decide +kernel
theorem dL_946 : decode code 946 = .ok (.iadd, 1) := by decide +kernel
theorem dL_947 : decode code 947 = .ok (.iaload, 1) := by decide +kernel
theorem dL_948 : decode code 948 = .ok (.invokevirtual 113, 3) := by decide +kernel
theorem dL_951 : decode code 951 = .ok (.aload_n 2, 1) := by decide +kernel
theorem dL_952 : decode code 952 = .ok (.aload_n 0, 1) := by decide +kernel
theorem dL_953 : decode code 953 = .ok (.iload_n 3, 1) := by decide +kernel
theorem dL_954 : decode code 954 = .ok (.iconst 1, 1) := by decide +kernel
theorem dL_955 : decode code 955 = .ok (.iadd, 1) := by decide +kernel
theorem dL_956 : decode code 956 = .ok (.iaload, 1) := by decide +kernel
theorem dL_957 : decode code 957 = .ok (.aload_n 0, 1) := by decide +kernel
theorem dL_958 : decode code 958 = .ok (.iload_n 3, 1) := by decide +kernel
theorem dL_959 : decode code 959 = .ok (.iconst 2, 1) := by decide +kernel
theorem dL_960 : decode code 960 = .ok (.iadd, 1) := by decide +kernel
theorem dL_961 : decode code 961 = .ok (.iaload, 1) := by decide +kernel
theorem dL_962 : decode code 962 = .ok (.invokevirtual 116, 3) := by decide +kernel
theorem dL_965 : decode code 965 = .ok (.if_icmp .eq 366, 3) := by decide +kernel
theorem dL_968 : decode code 968 = .ok (.iconst 0, 1) := by decide +kernel
theorem dL_969 : decode code 969 = .ok (.ireturn, 1) := by decide +kernel
theorem dL_970 : decode code 970 = .ok (.aload_n 1, 1) := by decide +kernel
theorem dL_971 : decode code 971 = .ok (.invokevirtual 117, 3) := by decide +kernel
theorem dL_974 : decode code 974 = .ok (.aload_n 2, 1) := by decide +kernel
theorem dL_975 : decode code 975 = .ok (.invokevirtual 120, 3) := by decide +kernel
theorem dL_978 : decode code 978 = .ok (.if_icmp .eq 353, 3) := by decide +kernel
theorem dL_981 : decode code 981 = .ok (.iconst 0, 1) := by decide +kernel
theorem dL_982 : decode code 982 = .ok (.ireturn, 1) := by decide +kernel
theorem dL_983 : decode code 983 = .ok (.aload_n 1, 1) := by decide +kernel
theorem dL_984 : decode code 984 = .ok (.invokevirtual 121, 3) := by decide +kernel
theorem dL_987 : decode code 987 = .ok (.aload_n 2, 1) := by decide +kernel
theorem dL_988 : decode code 988 = .ok (.invokevirtual 124, 3) := by decide +kernel
theorem dL_991 : decode code 991 = .ok (.if_icmp .eq 340, 3) := by decide +kernel
theorem dL_994 : decode code 994 = .ok (.iconst 0, 1) := by decide +kernel
theorem dL_995 : decode code 995 = .ok (.ireturn, 1) := by decide +kernel
theorem dL_996 : decode code 996 = .ok (.aload_n 1, 1) := by decide +kernel
theorem dL_997 : decode code 997 = .ok (.aload_n 0, 1) := by decide +kernel
theorem dL_998 : decode code 998 = .ok (.iload_n 3, 1) := by decide +kernel
theorem dL_999 : decode code 999 = .ok (.iconst 1, 1) := by decide +kernel
theorem dL_1000 : decode code 1000 = .ok (.iadd, 1) := by decide +kernel
theorem dL_1001 : decode code 1001 = .ok (.iaload, 1) := by decide +kernel
theorem dL_1002 : decode code 1002 = .ok (.aload_n 0, 1) := by decide +kernel
theorem dL_1003 : decode code 1003 = .ok (.iload_n 3, 1) := by decide +kernel
theorem dL_1004 : decode code 1004 = .ok (.iconst 2, 1) := by decide +kernel
theorem dL_1005 : decode code 1005 = .ok (.iadd, 1) := by decide +kernel
theorem dL_1006 : decode code 1006 = .ok (.iaload, 1) := by decide +kernel
theorem dL_1007 : decode code 1007 = .ok (.aload_n 0, 1) := by decide +kernel
theorem dL_1008 : decode code 1008 = .ok (.iload_n 3, 1) := by decide +kernel
theorem dL_1009 : decode code 1009 = .ok (.iconst 3, 1) := by decide +kernel
theorem dL_1010 : decode code 1010 = .ok (.iadd, 1) := by decide +kernel
theorem dL_1011 : decode code 1011 = .ok (.iaload, 1) := by decide +kernel
theorem dL_1012 : decode code 1012 = .ok (.invokevirtual 125, 3) := by decide +kernel
theorem dL_1015 : decode code 1015 = .ok (.aload_n 2, 1) := by decide +kernel
theorem dL_1016 : decode code 1016 = .ok (.aload_n 0, 1) := by decide +kernel
theorem dL_1017 : decode code 1017 = .ok (.iload_n 3, 1) := by decide +kernel
theorem dL_1018 : decode code 1018 = .ok (.iconst 1, 1) := by decide +kernel
theorem dL_1019 : decode code 1019 = .ok (.iadd, 1) := by decide +kernel
theorem dL_1020 : decode code 1020 = .ok (.iaload, 1) := by decide +kernel
theorem dL_1021 : decode code 1021 = .ok (.aload_n 0, 1) := by decide +kernel
theorem dL_1022 : decode code 1022 = .ok (.iload_n 3, 1) := by decide +kernel
theorem dL_1023 : decode code 1023 = .ok (.iconst 2, 1) := by decide +kernel
theorem dL_1024 : decode code 1024 = .ok (.iadd, 1) := by decide +kernel
theorem dL_1025 : decode code 1025 = .ok (.iaload, 1) := by decide +kernel
theorem dL_1026 : decode code 1026 = .ok (.aload_n 0, 1) := by decide +kernel
theorem dL_1027 : decode code 1027 = .ok (.iload_n 3, 1) := by decide +kernel
theorem dL_1028 : decode code 1028 = .ok (.iconst 3, 1) := by decide +kernel
theorem dL_1029 : decode code 1029 = .ok (.iadd, 1) := by decide +kernel
theorem dL_1030 : decode code 1030 = .ok (.iaload, 1) := by decide +kernel
theorem dL_1031 : decode code 1031 = .ok (.invokevirtual 128, 3) := by decide +kernel
theorem dL_1034 : decode code 1034 = .ok (.if_icmp .eq 297, 3) := by decide +kernel
theorem dL_1037 : decode code 1037 = .ok (.iconst 0, 1) := by decide +kernel
theorem dL_1038 : decode code 1038 = .ok (.ireturn, 1) := by decide +kernel
theorem dL_1039 : decode code 1039 = .ok (.aload_n 1, 1) := by decide +kernel
theorem dL_1040 : decode code 1040 = .ok (.aload_n 0, 1) := by decide +kernel
theorem dL_1041 : decode code 1041 = .ok (.iload_n 3, 1) := by decide +kernel
theorem dL_1042 : decode code 1042 = .ok (.iconst 1, 1) := by decide +kernel
theorem dL_1043 : decode code 1043 = .ok (.iadd, 1) := by decide +kernel
theorem dL_1044 : decode code 1044 = .ok (.iaload, 1) := by decide +kernel
theorem dL_1045 : decode code 1045 = .ok (.invokevirtual 129, 3) := by decide +kernel
theorem dL_1048 : decode code 1048 = .ok (.aload_n 2, 1) := by decide +kernel
theorem dL_1049 : decode code 1049 = .ok (.aload_n 0, 1) := by decide +kernel
theorem dL_1050 : decode code 1050 = .ok (.iload_n 3, 1) := by decide +kernel
theorem dL_1051 : decode code 1051 = .ok (.iconst 1, 1) := by decide +kernel
theorem dL_1052 : decode code 1052 = .ok (.iadd, 1) := by decide +kernel
theorem dL_1053 : decode code 1053 = .ok (.iaload, 1) := by decide +kernel
theorem dL_1054 : decode code 1054 = .ok (.invokevirtual 132, 3) := by decide +kernel
theorem dL_1057 : decode code 1057 = .ok (.if_icmp .eq 274, 3) := by decide +kernel
theorem dL_1060 : decode code 1060 = .ok (.iconst 0, 1) := by decide +kernel
theorem dL_1061 : decode code 1061 = .ok (.ireturn, 1) := by decide +kernel
theorem dL_1062 : decode code 1062 = .ok (.aload_n 1, 1) := by decide +kernel
theorem dL_1063 : decode code 1063 = .ok (.aload_n 0, 1) := by decide +kernel
theorem dL_1064 : decode code 1064 = .ok (.iload_n 3, 1) := by decide +kernel
theorem dL_1065 : decode code 1065 = .ok (.iconst 1, 1) := by decide +kernel
theorem dL_1066 : decode code 1066 = .ok (.iadd, 1) := by decide +kernel
theorem dL_1067 : decode code 1067 = .ok (.iaload, 1) := by decide +kernel
theorem dL_1068 : decode code 1068 = .ok (.aload_n 0, 1) := by decide +kernel
theorem dL_1069 : decode code 1069 = .ok (.iload_n 3, 1) := by decide +kernel
theorem dL_1070 : decode code 1070 = .ok (.iconst 2, 1) := by decide +kernel
theorem dL_1071 : decode code 1071 = .ok (.iadd, 1) := by decide +kernel
theorem dL_1072 : decode code 1072 = .ok (.iaload, 1) := by decide +kernel
theorem dL_1073 : decode code 1073 = .ok (.invokevirtual 133, 3) := by decide +kernel
theorem dL_1076 : decode code 1076 = .ok (.aload_n 2, 1) := by decide +kernel
theorem dL_1077 : decode code 1077 = .ok (.aload_n 0, 1) := by decide +kernel
theorem dL_1078 : decode code 1078 = .ok (.iload_n 3, 1) := by decide +kernel
theorem dL_1079 : decode code 1079 = .ok (.iconst 1, 1) := by decide +kernel
theorem dL_1080 : decode code 1080 = .ok (.iadd, 1) := by decide +kernel
theorem dL_1081 : decode code 1081 = .ok (.iaload, 1) := by decide +kernel
theorem dL_1082 : decode code 1082 = .ok (.aload_n 0, 1) := by decide +kernel
theorem dL_1083 : decode code 1083 = .ok (.iload_n 3, 1) := by decide +kernel
theorem dL_1084 : decode code 1084 = .ok (.iconst 2, 1) := by decide +kernel
theorem dL_1085 : decode code 1085 = .ok (.iadd, 1) := by decide +kernel
theorem dL_1086 : decode code 1086 = .ok (.iaload, 1) := by decide +kernel
theorem dL_1087 : decode code 1087 = .ok (.invokevirtual 136, 3) := by decide +kernel
theorem dL_1090 : decode code 1090 = .ok (.if_icmp .eq 241, 3) := by decide +kernel
theorem dL_1093 : decode code 1093 = .ok (.iconst 0, 1) := by decide +kernel
theorem dL_1094 : decode code 1094 = .ok (.ireturn, 1) := by decide +kernel
theorem dL_1095 : decode code 1095 = .ok (.aload_n 1, 1) := by decide +kernel
theorem dL_1096 : decode code 1096 = .ok (.aload_n 0, 1) := by decide +kernel
theorem dL_1097 : decode code 1097 = .ok (.iload_n 3, 1) := by decide +kernel
theorem dL_1098 : decode code 1098 = .ok (.iconst 1, 1) := by decide +kernel
theorem dL_1099 : decode code 1099 = .ok (.iadd, 1) := by decide +kernel
theorem dL_1100 : decode code 1100 = .ok (.iaload, 1) := by decide +kernel
theorem dL_1101 : decode code 1101 = .ok (.invokevirtual 137, 3) := by decide +kernel
theorem dL_1104 : decode code 1104 = .ok (.aload_n 2, 1) := by decide +kernel
theorem dL_1105 : decode code 1105 = .ok (.aload_n 0, 1) := by decide +kernel
theorem dL_1106 : decode code 1106 = .ok (.iload_n 3, 1) := by decide +kernel
theorem dL_1107 : decode code 1107 = .ok (.iconst 1, 1) := by decide +kernel
theorem dL_1108 : decode code 1108 = .ok (.iadd, 1) := by decide +kernel
theorem dL_1109 : decode code 1109 = .ok (.iaload, 1) := by decide +kernel
theorem dL_1110 : decode code 1110 = .ok (.invokevirtual 140, 3) := by decide +kernel
theorem dL_1113 : decode code 1113 = .ok (.if_icmp .eq 218, 3) := by decide +kernel
theorem dL_1116 : decode code 1116 = .ok (.iconst 0, 1) := by decide +kernel
theorem dL_1117 : decode code 1117 = .ok (.ireturn, 1) := by decide +kernel
theorem dL_1118 : decode code 1118 = .ok (.aload_n 1, 1) := by decide +kernel
theorem dL_1119 : decode code 1119 = .ok (.aload_n 0, 1) := by decide +kernel
theorem dL_1120 : decode code 1120 = .ok (.iload_n 3, 1) := by decide +kernel
theorem dL_1121 : decode code 1121 = .ok (.iconst 1, 1) := by decide +kernel
theorem dL_1122 : decode code 1122 = .ok (.iadd, 1) := by decide +kernel
theorem dL_1123 : decode code 1123 = .ok (.iaload, 1) := by decide +kernel
theorem dL_1124 : decode code 1124 = .ok (.aload_n 0, 1) := by decide +kernel
theorem dL_1125 : decode code 1125 = .ok (.iload_n 3, 1) := by decide +kernel
theorem dL_1126 : decode code 1126 = .ok (.iconst 2, 1) := by decide +kernel
theorem dL_1127 : decode code 1127 = .ok (.iadd, 1) := by decide +kernel
theorem dL_1128 : decode code 1128 = .ok (.iaload, 1) := by decide +kernel
theorem dL_1129 : decode code 1129 = .ok (.aload_n 0, 1) := by decide +kernel
theorem dL_1130 : decode code 1130 = .ok (.iload_n 3, 1) := by decide +kernel
theorem dL_1131 : decode code 1131 = .ok (.iconst 3, 1) := by decide +kernel
theorem dL_1132 : decode code 1132 = .ok (.iadd, 1) := by decide +kernel
theorem dL_1133 : decode code 1133 = .ok (.iaload, 1) := by decide +kernel
theorem dL_1134 : decode code 1134 = .ok (.invokevirtual 141, 3) := by decide +kernel
theorem dL_1137 : decode code 1137 = .ok (.aload_n 2, 1) := by decide +kernel
theorem dL_1138 : decode code 1138 = .ok (.aload_n 0, 1) := by decide +kernel
theorem dL_1139 : decode code 1139 = .ok (.iload_n 3, 1) := by decide +kernel
theorem dL_1140 : decode code 1140 = .ok (.iconst 1, 1) := by decide +kernel
theorem dL_1141 : decode code 1141 = .ok (.iadd, 1) := by decide +kernel
theorem dL_1142 : decode code 1142 = .ok (.iaload, 1) := by decide +kernel
theorem dL_1143 : decode code 1143 = .ok (.aload_n 0, 1) := by decide +kernel
theorem dL_1144 : decode code 1144 = .ok (.iload_n 3, 1) := by decide +kernel
theorem dL_1145 : decode code 1145 = .ok (.iconst 2, 1) := by decide +kernel
theorem dL_1146 : decode code 1146 = .ok (.iadd, 1) := by decide +kernel
theorem dL_1147 : decode code 1147 = .ok (.iaload, 1) := by decide +kernel
theorem dL_1148 : decode code 1148 = .ok (.aload_n 0, 1) := by decide +kernel
theorem dL_1149 : decode code 1149 = .ok (.iload_n 3, 1) := by decide +kernel
theorem dL_1150 : decode code 1150 = .ok (.iconst 3, 1) := by decide +kernel
theorem dL_1151 : decode code 1151 = .ok (.iadd, 1) := by decide +kernel
theorem dL_1152 : decode code 1152 = .ok (.iaload, 1) := by decide +kernel
theorem dL_1153 : decode code 1153 = .ok (.invokevirtual 144, 3) := by decide +kernel
theorem dL_1156 : decode code 1156 = .ok (.if_icmp .eq 175, 3) := by decide +kernel
theorem dL_1159 : decode code 1159 = .ok (.iconst 0, 1) := by decide +kernel
theorem dL_1160 : decode code 1160 = .ok (.ireturn, 1) := by decide +kernel
theorem dL_1161 : decode code 1161 = .ok (.aload_n 1, 1) := by decide +kernel
theorem dL_1162 : decode code 1162 = .ok (.aload_n 0, 1) := by decide +kernel
theorem dL_1163 : decode code 1163 = .ok (.iload_n 3, 1) := by decide +kernel
theorem dL_1164 : decode code 1164 = .ok (.iconst 1, 1) := by decide +kernel
theorem dL_1165 : decode code 1165 = .ok (.iadd, 1) := by decide +kernel
theorem dL_1166 : decode code 1166 = .ok (.iaload, 1) := by decide +kernel
theorem dL_1167 : decode code 1167 = .ok (.aload_n 0, 1) := by decide +kernel
theorem dL_1168 : decode code 1168 = .ok (.iload_n 3, 1) := by decide +kernel
theorem dL_1169 : decode code 1169 = .ok (.iconst 2, 1) := by decide +kernel
theorem dL_1170 : decode code 1170 = .ok (.iadd, 1) := by decide +kernel
theorem dL_1171 : decode code 1171 = .ok (.iaload, 1) := by decide +kernel
theorem dL_1172 : decode code 1172 = .ok (.aload_n 0, 1) := by decide +kernel
theorem dL_1173 : decode code 1173 = .ok (.iload_n 3, 1) := by decide +kernel
theorem dL_1174 : decode code 1174 = .ok (.iconst 3, 1) := by decide +kernel
theorem dL_1175 : decode code 1175 = .ok (.iadd, 1) := by decide +kernel
theorem dL_1176 : decode code 1176 = .ok (.iaload, 1) := by decide +kernel
theorem dL_1177 : decode code 1177 = .ok (.i2l, 1) := by decide +kernel
theorem dL_1178 : decode code 1178 = .ok (.bipush 32, 2) := by decide +kernel
theorem dL_1180 : decode code 1180 = .ok (.lshl, 1) := by decide +kernel
theorem dL_1181 : decode code 1181 = .ok (.aload_n 0, 1) := by decide +kernel
theorem dL_1182 : decode code 1182 = .ok (.iload_n 3, 1) := by decide +kernel
theorem dL_1183 : decode code 1183 = .ok (.iconst 4, 1) := by decide +kernel
theorem dL_1184 : decode code 1184 = .ok (.iadd, 1) := by decide +kernel
theorem dL_1185 : decode code 1185 = .ok (.iaload, 1) := by decide +kernel
theorem dL_1186 : decode code 1186 = .ok (.i2l, 1) := by decide +kernel
theorem dL_1187 : decode code 1187 = .ok (.ldc2_w 145, 3) := by decide +kernel
theorem dL_1190 : decode code 1190 = .ok (.land, 1) := by decide +kernel
theorem dL_1191 : decode code 1191 = .ok (.lor, 1) := by decide +kernel
theorem dL_1192 : decode code 1192 = .ok (.invokevirtual 147, 3) := by decide +kernel
theorem dL_1195 : decode code 1195 = .ok (.aload_n 2, 1) := by decide +kernel
theorem dL_1196 : decode code 1196 = .ok (.aload_n 0, 1) := by decide +kernel
theorem dL_1197 : decode code 1197 = .ok (.iload_n 3, 1) := by decide +kernel
theorem dL_1198 : decode code 1198 = .ok (.iconst 1, 1) := by decide +kernel
theorem dL_1199 : decode code 1199 = .ok (.iadd, 1) := by decide +kernel
theorem dL_1200 : decode code 1200 = .ok (.iaload, 1) := by decide +kernel
theorem dL_1201 : decode code 1201 = .ok (.aload_n 0, 1) := by decide +kernel
theorem dL_1202 : decode code 1202 = .ok (.iload_n 3, 1) := by decide +kernel
theorem dL_1203 : decode code 1203 = .ok (.iconst 2, 1) := by decide +kernel
theorem dL_1204 : decode code 1204 = .ok (.iadd, 1) := by decide +kernel
theorem dL_1205 : decode code 1205 = .ok (.iaload, 1) := by decide +kernel
theorem dL_1206 : decode code 1206 = .ok (.aload_n 0, 1) := by decide +kernel
theorem dL_1207 : decode code 1207 = .ok (.iload_n 3, 1) := by decide +kernel
theorem dL_1208 : decode code 1208 = .ok (.iconst 3, 1) := by decide +kernel
theorem dL_1209 : decode code 1209 = .ok (.iadd, 1) := by decide +kernel
theorem dL_1210 : decode code 1210 = .ok (.iaload, 1) := by decide +kernel
theorem dL_1211 : decode code 1211 = .ok (.i2l, 1) := by decide +kernel
theorem dL_1212 : decode code 1212 = .ok (.bipush 32, 2) := by decide +kernel
theorem dL_1214 : decode code 1214 = .ok (.lshl, 1) := by decide +kernel
theorem dL_1215 : decode code 1215 = .ok (.aload_n 0, 1) := by decide +kernel
theorem dL_1216 : decode code 1216 = .ok (.iload_n 3, 1) := by decide +kernel
theorem dL_1217 : decode code 1217 = .ok (.iconst 4, 1) := by decide +kernel
theorem dL_1218 : decode code 1218 = .ok (.iadd, 1) := by decide +kernel
theorem dL_1219 : decode code 1219 = .ok (.iaload, 1) := by decide +kernel
theorem dL_1220 : decode code 1220 = .ok (.i2l, 1) := by decide +kernel
theorem dL_1221 : decode code 1221 = .ok (.ldc2_w 145, 3) := by decide +kernel
theorem dL_1224 : decode code 1224 = .ok (.land, 1) := by decide +kernel
theorem dL_1225 : decode code 1225 = .ok (.lor, 1) := by decide +kernel
theorem dL_1226 : decode code 1226 = .ok (.invokevirtual 151, 3) := by decide +kernel
theorem dL_1229 : decode code 1229 = .ok (.if_icmp .eq 102, 3) := by decide +kernel
theorem dL_1232 : decode code 1232 = .ok (.iconst 0, 1) := by decide +kernel
theorem dL_1233 : decode code 1233 = .ok (.ireturn, 1) := by decide +kernel
theorem dL_1234 : decode code 1234 = .ok (.aload_n 1, 1) := by decide +kernel
theorem dL_1235 : decode code 1235 = .ok (.aload_n 0, 1) := by decide +kernel
theorem dL_1236 : decode code 1236 = .ok (.iload_n 3, 1) := by decide +kernel
theorem dL_1237 : decode code 1237 = .ok (.iconst 1, 1) := by decide +kernel
theorem dL_1238 : decode code 1238 = .ok (.iadd, 1) := by decide +kernel
theorem dL_1239 : decode code 1239 = .ok (.iaload, 1) := by decide +kernel
theorem dL_1240 : decode code 1240 = .ok (.aload_n 0, 1) := by decide +kernel
theorem dL_1241 : decode code 1241 = .ok (.iload_n 3, 1) := by decide +kernel
theorem dL_1242 : decode code 1242 = .ok (.iconst 2, 1) := by decide +kernel
theorem dL_1243 : decode code 1243 = .ok (.iadd, 1) := by decide +kernel
theorem dL_1244 : decode code 1244 = .ok (.iaload, 1) := by decide +kernel
theorem dL_1245 : decode code 1245 = .ok (.invokevirtual 152, 3) := by decide +kernel
theorem dL_1248 : decode code 1248 = .ok (.aload_n 2, 1) := by decide +kernel
theorem dL_1249 : decode code 1249 = .ok (.aload_n 0, 1) := by decide +kernel
theorem dL_1250 : decode code 1250 = .ok (.iload_n 3, 1) := by decide +kernel
theorem dL_1251 : decode code 1251 = .ok (.iconst 1, 1) := by decide +kernel
theorem dL_1252 : decode code 1252 = .ok (.iadd, 1) := by decide +kernel
theorem dL_1253 : decode code 1253 = .ok (.iaload, 1) := by decide +kernel
theorem dL_1254 : decode code 1254 = .ok (.aload_n 0, 1) := by decide +kernel
theorem dL_1255 : decode code 1255 = .ok (.iload_n 3, 1) := by decide +kernel
theorem dL_1256 : decode code 1256 = .ok (.iconst 2, 1) := by decide +kernel
theorem dL_1257 : decode code 1257 = .ok (.iadd, 1) := by decide +kernel
theorem dL_1258 : decode code 1258 = .ok (.iaload, 1) := by decide +kernel
theorem dL_1259 : decode code 1259 = .ok (.invokevirtual 155, 3) := by decide +kernel
theorem dL_1262 : decode code 1262 = .ok (.lcmp, 1) := by decide +kernel
theorem dL_1263 : decode code 1263 = .ok (.ifCond .eq 68, 3) := by decide +kernel
theorem dL_1266 : decode code 1266 = .ok (.iconst 0, 1) := by decide +kernel
theorem dL_1267 : decode code 1267 = .ok (.ireturn, 1) := by decide +kernel
theorem dL_1268 : decode code 1268 = .ok (.aload_n 1, 1) := by decide +kernel
theorem dL_1269 : decode code 1269 = .ok (.aload_n 0, 1) := by decide +kernel
theorem dL_1270 : decode code 1270 = .ok (.iload_n 3, 1) := by decide +kernel
theorem dL_1271 : decode code 1271 = .ok (.iconst 1, 1) := by decide +kernel
theorem dL_1272 : decode code 1272 = .ok (.iadd, 1) := by decide +kernel
theorem dL_1273 : decode code 1273 = .ok (.iaload, 1) := by decide +kernel
theorem dL_1274 : decode code 1274 = .ok (.aload_n 0, 1) := by decide +kernel
theorem dL_1275 : decode code 1275 = .ok (.iload_n 3, 1) := by decide +kernel
theorem dL_1276 : decode code 1276 = .ok (.iconst 2, 1) := by decide +kernel
theorem dL_1277 : decode code 1277 = .ok (.iadd, 1) := by decide +kernel
theorem dL_1278 : decode code 1278 = .ok (.iaload, 1) := by decide +kernel
theorem dL_1279 : decode code 1279 = .ok (.aload_n 0, 1) := by decide +kernel
theorem dL_1280 : decode code 1280 = .ok (.iload_n 3, 1) := by decide +kernel
theorem dL_1281 : decode code 1281 = .ok (.iconst 3, 1) := by decide +kernel
theorem dL_1282 : decode code 1282 = .ok (.iadd, 1) := by decide +kernel
theorem dL_1283 : decode code 1283 = .ok (.iaload, 1) := by decide +kernel
theorem dL_1284 : decode code 1284 = .ok (.aload_n 0, 1) := by decide +kernel
theorem dL_1285 : decode code 1285 = .ok (.iload_n 3, 1) := by decide +kernel
theorem dL_1286 : decode code 1286 = .ok (.iconst 4, 1) := by decide +kernel
theorem dL_1287 : decode code 1287 = .ok (.iadd, 1) := by decide +kernel
theorem dL_1288 : decode code 1288 = .ok (.iaload, 1) := by decide +kernel
theorem dL_1289 : decode code 1289 = .ok (.aload_n 0, 1) := by decide +kernel
theorem dL_1290 : decode code 1290 = .ok (.iload_n 3, 1) := by decide +kernel
theorem dL_1291 : decode code 1291 = .ok (.iconst 5, 1) := by decide +kernel
theorem dL_1292 : decode code 1292 = .ok (.iadd, 1) := by decide +kernel
theorem dL_1293 : decode code 1293 = .ok (.iaload, 1) := by decide +kernel
theorem dL_1294 : decode code 1294 = .ok (.invokevirtual 156, 3) := by decide +kernel
theorem dL_1297 : decode code 1297 = .ok (.aload_n 2, 1) := by decide +kernel
theorem dL_1298 : decode code 1298 = .ok (.aload_n 0, 1) := by decide +kernel
theorem dL_1299 : decode code 1299 = .ok (.iload_n 3, 1) := by decide +kernel
theorem dL_1300 : decode code 1300 = .ok (.iconst 1, 1) := by decide +kernel
theorem dL_1301 : decode code 1301 = .ok (.iadd, 1) := by decide +kernel
theorem dL_1302 : decode code 1302 = .ok (.iaload, 1) := by decide +kernel
theorem dL_1303 : decode code 1303 = .ok (.aload_n 0, 1) := by decide +kernel
theorem dL_1304 : decode code 1304 = .ok (.iload_n 3, 1) := by decide +kernel
theorem dL_1305 : decode code 1305 = .ok (.iconst 2, 1) := by decide +kernel
theorem dL_1306 : decode code 1306 = .ok (.iadd, 1) := by decide +kernel
theorem dL_1307 : decode code 1307 = .ok (.iaload, 1) := by decide +kernel
theorem dL_1308 : decode code 1308 = .ok (.aload_n 0, 1) := by decide +kernel
theorem dL_1309 : decode code 1309 = .ok (.iload_n 3, 1) := by decide +kernel
theorem dL_1310 : decode code 1310 = .ok (.iconst 3, 1) := by decide +kernel
theorem dL_1311 : decode code 1311 = .ok (.iadd, 1) := by decide +kernel
theorem dL_1312 : decode code 1312 = .ok (.iaload, 1) := by decide +kernel
theorem dL_1313 : decode code 1313 = .ok (.aload_n 0, 1) := by decide +kernel
theorem dL_1314 : decode code 1314 = .ok (.iload_n 3, 1) := by decide +kernel
theorem dL_1315 : decode code 1315 = .ok (.iconst 4, 1) := by decide +kernel
theorem dL_1316 : decode code 1316 = .ok (.iadd, 1) := by decide +kernel
theorem dL_1317 : decode code 1317 = .ok (.iaload, 1) := by decide +kernel
theorem dL_1318 : decode code 1318 = .ok (.aload_n 0, 1) := by decide +kernel
theorem dL_1319 : decode code 1319 = .ok (.iload_n 3, 1) := by decide +kernel
theorem dL_1320 : decode code 1320 = .ok (.iconst 5, 1) := by decide +kernel
theorem dL_1321 : decode code 1321 = .ok (.iadd, 1) := by decide +kernel
theorem dL_1322 : decode code 1322 = .ok (.iaload, 1) := by decide +kernel
theorem dL_1323 : decode code 1323 = .ok (.invokevirtual 160, 3) := by decide +kernel
theorem dL_1326 : decode code 1326 = .ok (.if_icmp .eq 5, 3) := by decide +kernel
theorem dL_1329 : decode code 1329 = .ok (.iconst 0, 1) := by decide +kernel
theorem dL_1330 : decode code 1330 = .ok (.ireturn, 1) := by decide +kernel
theorem dL_1331 : decode code 1331 = .ok (.iinc 3 6, 3) := by decide +kernel
theorem dL_1334 : decode code 1334 = .ok (.goto (-1316), 3) := by decide +kernel
theorem dL_1337 : decode code 1337 = .ok (.iconst 1, 1) := by decide +kernel
theorem dL_1338 : decode code 1338 = .ok (.ireturn, 1) := by decide +kernel
theorem wL_7 : Cond.classLink "StruckWhileLaw" 7 "StruckWhile" ∈ zTb := zt_at 100 (by decide +kernel) rfl
theorem wL_9 : Cond.methodLink "StruckWhileLaw" 9 yX8_init ∈ zTb := zt_at 102 (by decide +kernel) rfl
theorem wL_13 : Cond.methodLink "StruckWhileLaw" 13 yX8_one ∈ zTb := zt_at 385 (by decide +kernel) rfl
theorem wL_18 : Cond.methodLink "StruckWhileLaw" 18 yX8_of ∈ zTb := zt_at 396 (by decide +kernel) rfl
theorem wL_23 : Cond.methodLink "StruckWhileLaw" 23 yX8_heat ∈ zTb := zt_at 428 (by decide +kernel) rfl
theorem wL_27 : Cond.methodLink "StruckWhileLaw" 27 yX8_away ∈ zTb := zt_at 432 (by decide +kernel) rfl
theorem wL_32 : Cond.methodLink "StruckWhileLaw" 32 yX8_work ∈ zTb := zt_at 436 (by decide +kernel) rfl
theorem wL_36 : Cond.methodLink "StruckWhileLaw" 36 yX8_piece ∈ zTb := zt_at 444 (by decide +kernel) rfl
theorem wL_40 : Cond.methodLink "StruckWhileLaw" 40 yX8_anvil ∈ zTb := zt_at 489 (by decide +kernel) rfl
theorem wL_45 : Cond.methodLink "StruckWhileLaw" 45 yX8_row ∈ zTb := zt_at 496 (by decide +kernel) rfl
theorem wL_49 : Cond.methodLink "StruckWhileLaw" 49 yX8_feed ∈ zTb := zt_at 500 (by decide +kernel) rfl
theorem wL_53 : Cond.methodLink "StruckWhileLaw" 53 yX8_square ∈ zTb := zt_at 508 (by decide +kernel) rfl
theorem wL_58 : Cond.methodLink "StruckWhileLaw" 58 yX8_told ∈ zTb := zt_at 690 (by decide +kernel) rfl
theorem wL_62 : Cond.methodLink "StruckWhileLaw" 62 yX8_pass ∈ zTb := zt_at 704 (by decide +kernel) rfl
theorem wL_66 : Cond.methodLink "StruckWhileLaw" 66 yX8_on ∈ zTb := zt_at 713 (by decide +kernel) rfl
theorem wL_70 : Cond.methodLink "StruckWhileLaw" 70 yX8_best ∈ zTb := zt_at 722 (by decide +kernel) rfl
theorem wL_74 : Cond.methodLink "StruckWhileLaw" 74 yX8_talk ∈ zTb := zt_at 754 (by decide +kernel) rfl
theorem wL_78 : Cond.methodLink "StruckWhileLaw" 78 yX8_see ∈ zTb := zt_at 772 (by decide +kernel) rfl
theorem wL_83 : Cond.methodLink "StruckWhileLaw" 83 yX8_can ∈ zTb := zt_at 789 (by decide +kernel) rfl
theorem wL_87 : Cond.methodLink "StruckWhileLaw" 87 yX8_odds ∈ zTb := zt_at 806 (by decide +kernel) rfl
theorem wL_92 : Cond.methodLink "StruckWhileLaw" 92 yX8_mean ∈ zTb := zt_at 822 (by decide +kernel) rfl
theorem wL_97 : Cond.methodLink "StruckWhileLaw" 97 yX8_plan ∈ zTb := zt_at 826 (by decide +kernel) rfl
theorem wL_101 : Cond.methodLink "StruckWhileLaw" 101 yX8_ends ∈ zTb := zt_at 830 (by decide +kernel) rfl
theorem wL_105 : Cond.methodLink "StruckWhileLaw" 105 yX8_book ∈ zTb := zt_at 843 (by decide +kernel) rfl
theorem wL_109 : Cond.methodLink "StruckWhileLaw" 109 yX8_looked ∈ zTb := zt_at 847 (by decide +kernel) rfl
theorem wL_113 : Cond.methodLink "StruckWhileLaw" 113 yX8_judge ∈ zTb := zt_at 851 (by decide +kernel) rfl
theorem wL_117 : Cond.methodLink "StruckWhileLaw" 117 yX8_image ∈ zTb := zt_at 863 (by decide +kernel) rfl
theorem wL_121 : Cond.methodLink "StruckWhileLaw" 121 yX8_undo ∈ zTb := zt_at 876 (by decide +kernel) rfl
theorem wL_125 : Cond.methodLink "StruckWhileLaw" 125 yX8_act ∈ zTb := zt_at 880 (by decide +kernel) rfl
theorem wL_129 : Cond.methodLink "StruckWhileLaw" 129 yX8_trace ∈ zTb := zt_at 904 (by decide +kernel) rfl
theorem wL_133 : Cond.methodLink "StruckWhileLaw" 133 yX8_taken ∈ zTb := zt_at 908 (by decide +kernel) rfl
theorem wL_137 : Cond.methodLink "StruckWhileLaw" 137 yX8_count ∈ zTb := zt_at 916 (by decide +kernel) rfl
theorem wL_141 : Cond.methodLink "StruckWhileLaw" 141 yX8_tape ∈ zTb := zt_at 920 (by decide +kernel) rfl
theorem wL_147 : Cond.methodLink "StruckWhileLaw" 147 yX8_item ∈ zTb := zt_at 928 (by decide +kernel) rfl
theorem wL_152 : Cond.methodLink "StruckWhileLaw" 152 yX8_read ∈ zTb := zt_at 944 (by decide +kernel) rfl
theorem wL_156 : Cond.methodLink "StruckWhileLaw" 156 yX8_shift ∈ zTb := zt_at 948 (by decide +kernel) rfl
theorem wL_10 : Cond.classLink "StruckWhileLaw" 10 "StruckWhileModel" ∈ zTb := zt_at 953 (by decide +kernel) rfl
theorem wL_12 : Cond.methodLink "StruckWhileLaw" 12 yX9_init ∈ zTb := zt_at 955 (by decide +kernel) rfl
theorem wL_17 : Cond.methodLink "StruckWhileLaw" 17 yX9_one ∈ zTb := zt_at 1194 (by decide +kernel) rfl
theorem wL_26 : Cond.methodLink "StruckWhileLaw" 26 yX9_heat ∈ zTb := zt_at 1206 (by decide +kernel) rfl
theorem wL_31 : Cond.methodLink "StruckWhileLaw" 31 yX9_away ∈ zTb := zt_at 1214 (by decide +kernel) rfl
theorem wL_35 : Cond.methodLink "StruckWhileLaw" 35 yX9_work ∈ zTb := zt_at 1226 (by decide +kernel) rfl
theorem wL_44 : Cond.methodLink "StruckWhileLaw" 44 yX9_anvil ∈ zTb := zt_at 1230 (by decide +kernel) rfl
theorem wL_48 : Cond.methodLink "StruckWhileLaw" 48 yX9_row ∈ zTb := zt_at 1238 (by decide +kernel) rfl
theorem wL_52 : Cond.methodLink "StruckWhileLaw" 52 yX9_feed ∈ zTb := zt_at 1242 (by decide +kernel) rfl
theorem wL_57 : Cond.methodLink "StruckWhileLaw" 57 yX9_square ∈ zTb := zt_at 1246 (by decide +kernel) rfl
theorem wL_22 : Cond.methodLink "StruckWhileLaw" 22 yX9_of ∈ zTb := zt_at 1306 (by decide +kernel) rfl
theorem wL_61 : Cond.methodLink "StruckWhileLaw" 61 yX9_told ∈ zTb := zt_at 1338 (by decide +kernel) rfl
theorem wL_65 : Cond.methodLink "StruckWhileLaw" 65 yX9_pass ∈ zTb := zt_at 1362 (by decide +kernel) rfl
theorem wL_39 : Cond.methodLink "StruckWhileLaw" 39 yX9_piece ∈ zTb := zt_at 1386 (by decide +kernel) rfl
theorem wL_69 : Cond.methodLink "StruckWhileLaw" 69 yX9_on ∈ zTb := zt_at 1402 (by decide +kernel) rfl
theorem wL_73 : Cond.methodLink "StruckWhileLaw" 73 yX9_best ∈ zTb := zt_at 1406 (by decide +kernel) rfl
theorem wL_77 : Cond.methodLink "StruckWhileLaw" 77 yX9_talk ∈ zTb := zt_at 1422 (by decide +kernel) rfl
theorem wL_82 : Cond.methodLink "StruckWhileLaw" 82 yX9_see ∈ zTb := zt_at 1430 (by decide +kernel) rfl
theorem wL_86 : Cond.methodLink "StruckWhileLaw" 86 yX9_can ∈ zTb := zt_at 1434 (by decide +kernel) rfl
theorem wL_91 : Cond.methodLink "StruckWhileLaw" 91 yX9_odds ∈ zTb := zt_at 1450 (by decide +kernel) rfl
theorem wL_96 : Cond.methodLink "StruckWhileLaw" 96 yX9_mean ∈ zTb := zt_at 1467 (by decide +kernel) rfl
theorem wL_100 : Cond.methodLink "StruckWhileLaw" 100 yX9_plan ∈ zTb := zt_at 1471 (by decide +kernel) rfl
theorem wL_104 : Cond.methodLink "StruckWhileLaw" 104 yX9_ends ∈ zTb := zt_at 1475 (by decide +kernel) rfl
theorem wL_108 : Cond.methodLink "StruckWhileLaw" 108 yX9_book ∈ zTb := zt_at 1483 (by decide +kernel) rfl
theorem wL_112 : Cond.methodLink "StruckWhileLaw" 112 yX9_looked ∈ zTb := zt_at 1487 (by decide +kernel) rfl
theorem wL_116 : Cond.methodLink "StruckWhileLaw" 116 yX9_judge ∈ zTb := zt_at 1491 (by decide +kernel) rfl
theorem wL_120 : Cond.methodLink "StruckWhileLaw" 120 yX9_image ∈ zTb := zt_at 1499 (by decide +kernel) rfl
theorem wL_124 : Cond.methodLink "StruckWhileLaw" 124 yX9_undo ∈ zTb := zt_at 1503 (by decide +kernel) rfl
theorem wL_128 : Cond.methodLink "StruckWhileLaw" 128 yX9_act ∈ zTb := zt_at 1507 (by decide +kernel) rfl
theorem wL_132 : Cond.methodLink "StruckWhileLaw" 132 yX9_trace ∈ zTb := zt_at 1543 (by decide +kernel) rfl
theorem wL_136 : Cond.methodLink "StruckWhileLaw" 136 yX9_taken ∈ zTb := zt_at 1547 (by decide +kernel) rfl
theorem wL_140 : Cond.methodLink "StruckWhileLaw" 140 yX9_count ∈ zTb := zt_at 1551 (by decide +kernel) rfl
theorem wL_144 : Cond.methodLink "StruckWhileLaw" 144 yX9_tape ∈ zTb := zt_at 1555 (by decide +kernel) rfl
theorem wL_151 : Cond.methodLink "StruckWhileLaw" 151 yX9_item ∈ zTb := zt_at 1559 (by decide +kernel) rfl
theorem wL_155 : Cond.methodLink "StruckWhileLaw" 155 yX9_read ∈ zTb := zt_at 1567 (by decide +kernel) rfl
theorem wL_160 : Cond.methodLink "StruckWhileLaw" 160 yX9_shift ∈ zTb := zt_at 1571 (by decide +kernel) rfl
theorem wL_145 : Cond.constantLong "StruckWhileLaw" 145 (4294967295 : Int64) ∈ zTb := zt_at 1575 (by decide +kernel) rfl
