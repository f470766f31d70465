theorem dl_0 : decode code 0 = .ok (.new 8, 3) := by decide +kernel
theorem dl_3 : decode code 3 = .ok (.dup, 1) := by decide +kernel
theorem dl_4 : decode code 4 = .ok (.invokespecial 15, 3) := by decide +kernel
theorem dl_7 : decode code 7 = .ok (.astore_n 1, 1) := by decide +kernel
theorem dl_8 : decode code 8 = .ok (.new 16, 3) := by decide +kernel
theorem dl_11 : decode code 11 = .ok (.dup, 1) := by decide +kernel
theorem dl_12 : decode code 12 = .ok (.invokespecial 18, 3) := by decide +kernel
theorem dl_15 : decode code 15 = .ok (.astore_n 2, 1) := by decide +kernel
theorem dl_16 : decode code 16 = .ok (.iconst 1, 1) := by decide +kernel
theorem dl_17 : decode code 17 = .ok (.newarray .long, 2) := by decide +kernel
theorem dl_19 : decode code 19 = .ok (.astore_n 3, 1) := by decide +kernel
theorem dl_20 : decode code 20 = .ok (.iconst 0, 1) := by decide +kernel
theorem dl_21 : decode code 21 = .ok (.istore 4, 2) := by decide +kernel
theorem dl_23 : decode code 23 = .ok (.iload 4, 2) := by decide +kernel
theorem dl_25 : decode code 25 = .ok (.aload_n 0, 1) := by decide +kernel
theorem dl_26 : decode code 26 = .ok (.arraylength, 1) := by decide +kernel
theorem dl_27 : decode code 27 = .ok (.bipush 6, 2) := by decide +kernel
theorem dl_29 : decode code 29 = .ok (.isub, 1) := by decide +kernel
theorem dl_30 : decode code 30 = .ok (.if_icmp .gt 1547, 3) := by decide +kernel
theorem dl_33 : decode code 33 = .ok (.aload_n 0, 1) := by decide +kernel
theorem dl_34 : decode code 34 = .ok (.iload 4, 2) := by decide +kernel
theorem dl_36 : decode code 36 = .ok (.iaload, 1) := by decide +kernel
theorem dl_37 : decode code 37 = .ok (.bipush 63, 2) := by decide +kernel
theorem dl_39 : decode code 39 = .ok (.iand, 1) := by decide +kernel
theorem dl_40 : decode code 40 = .ok (.tableswitch 1531 0 39 #[176, 249, 274, 299, 312, 325, 350, 399, 448, 485, 522, 547, 596, 645, 694, 707, 744, 781, 806, 843, 880, 893, 906, 931, 956, 1005, 1066, 1103, 1176, 1189, 1226, 1251, 1324, 1349, 1374, 1411, 1424, 1437, 1493, 1518], 176) := by decide +kernel
theorem dl_216 : decode code 216 = .ok (.aload_n 1, 1) := by decide +kernel
theorem dl_217 : decode code 217 = .ok (.aload_n 0, 1) := by decide +kernel
theorem dl_218 : decode code 218 = .ok (.iload 4, 2) := by decide +kernel
theorem dl_220 : decode code 220 = .ok (.iconst 1, 1) := by decide +kernel
theorem dl_221 : decode code 221 = .ok (.iadd, 1) := by decide +kernel
theorem dl_222 : decode code 222 = .ok (.iaload, 1) := by decide +kernel
theorem dl_223 : decode code 223 = .ok (.aload_n 0, 1) := by decide +kernel
theorem dl_224 : decode code 224 = .ok (.iload 4, 2) := by decide +kernel
theorem dl_226 : decode code 226 = .ok (.iconst 2, 1) := by decide +kernel
theorem dl_227 : decode code 227 = .ok (.iadd, 1) := by decide +kernel
theorem dl_228 : decode code 228 = .ok (.iaload, 1) := by decide +kernel
theorem dl_229 : decode code 229 = .ok (.aload_n 0, 1) := by decide +kernel
theorem dl_230 : decode code 230 = .ok (.iload 4, 2) := by decide +kernel
theorem dl_232 : decode code 232 = .ok (.iconst 3, 1) := by decide +kernel
theorem dl_233 : decode code 233 = .ok (.iadd, 1) := by decide +kernel
theorem dl_234 : decode code 234 = .ok (.iaload, 1) := by decide +kernel
theorem dl_235 : decode code 235 = .ok (.aload_n 0, 1) := by decide +kernel
theorem dl_236 : decode code 236 = .ok (.iload 4, 2) := by decide +kernel
theorem dl_238 : decode code 238 = .ok (.iconst 4, 1) := by decide +kernel
theorem dl_239 : decode code 239 = .ok (.iadd, 1) := by decide +kernel
theorem dl_240 : decode code 240 = .ok (.iaload, 1) := by decide +kernel
theorem dl_241 : decode code 241 = .ok (.aload_n 0, 1) := by decide +kernel
theorem dl_242 : decode code 242 = .ok (.iload 4, 2) := by decide +kernel
theorem dl_244 : decode code 244 = .ok (.iconst 5, 1) := by decide +kernel
theorem dl_245 : decode code 245 = .ok (.iadd, 1) := by decide +kernel
theorem dl_246 : decode code 246 = .ok (.iaload, 1) := by decide +kernel
theorem dl_247 : decode code 247 = .ok (.invokevirtual 19, 3) := by decide +kernel
theorem dl_250 : decode code 250 = .ok (.aload_n 2, 1) := by decide +kernel
theorem dl_251 : decode code 251 = .ok (.aload_n 0, 1) := by decide +kernel
theorem dl_252 : decode code 252 = .ok (.iload 4, 2) := by decide +kernel
theorem dl_254 : decode code 254 = .ok (.iconst 1, 1) := by decide +kernel
theorem dl_255 : decode code 255 = .ok (.iadd, 1) := by decide +kernel
theorem dl_256 : decode code 256 = .ok (.iaload, 1) := by decide +kernel
theorem dl_257 : decode code 257 = .ok (.aload_n 0, 1) := by decide +kernel
theorem dl_258 : decode code 258 = .ok (.iload 4, 2) := by decide +kernel
theorem dl_260 : decode code 260 = .ok (.iconst 2, 1) := by decide +kernel
theorem dl_261 : decode code 261 = .ok (.iadd, 1) := by decide +kernel
theorem dl_262 : decode code 262 = .ok (.iaload, 1) := by decide +kernel
theorem dl_263 : decode code 263 = .ok (.aload_n 0, 1) := by decide +kernel
theorem dl_264 : decode code 264 = .ok (.iload 4, 2) := by decide +kernel
theorem dl_266 : decode code 266 = .ok (.iconst 3, 1) := by decide +kernel
theorem dl_267 : decode code 267 = .ok (.iadd, 1) := by decide +kernel
theorem dl_268 : decode code 268 = .ok (.iaload, 1) := by decide +kernel
theorem dl_269 : decode code 269 = .ok (.aload_n 0, 1) := by decide +kernel
theorem dl_270 : decode code 270 = .ok (.iload 4, 2) := by decide +kernel
theorem dl_272 : decode code 272 = .ok (.iconst 4, 1) := by decide +kernel
theorem dl_273 : decode code 273 = .ok (.iadd, 1) := by decide +kernel
theorem dl_274 : decode code 274 = .ok (.iaload, 1) := by decide +kernel
theorem dl_275 : decode code 275 = .ok (.aload_n 0, 1) := by decide +kernel
theorem dl_276 : decode code 276 = .ok (.iload 4, 2) := by decide +kernel
theorem dl_278 : decode code 278 = .ok (.iconst 5, 1) := by decide +kernel
theorem dl_279 : decode code 279 = .ok (.iadd, 1) := by decide +kernel
theorem dl_280 : decode code 280 = .ok (.iaload, 1) := by decide +kernel
theorem dl_281 : decode code 281 = .ok (.invokevirtual 23, 3) := by decide +kernel
theorem dl_284 : decode code 284 = .ok (.if_icmp .eq 1287, 3) := by decide +kernel
theorem dl_287 : decode code 287 = .ok (.iconst 0, 1) := by decide +kernel
theorem dl_288 : decode code 288 = .ok (.ireturn, 1) := by decide +kernel
theorem dl_289 : decode code 289 = .ok (.aload_n 1, 1) := by decide +kernel
theorem dl_290 : decode code 290 = .ok (.aload_n 0, 1) := by decide +kernel
theorem dl_291 : decode code 291 = .ok (.iload 4, 2) := by decide +kernel
theorem dl_293 : decode code 293 = .ok (.iconst 1, 1) := by decide +kernel
theorem dl_294 : decode code 294 = .ok (.iadd, 1) := by decide +kernel
theorem dl_295 : decode code 295 = .ok (.iaload, 1) := by decide +kernel
theorem dl_296 : decode code 296 = .ok (.invokevirtual 24, 3) := by decide +kernel
theorem dl_299 : decode code 299 = .ok (.aload_n 2, 1) := by decide +kernel
theorem dl_300 : decode code 300 = .ok (.aload_n 0, 1) := by decide +kernel
theorem dl_301 : decode code 301 = .ok (.iload 4, 2) := by decide +kernel
theorem dl_303 : decode code 303 = .ok (.iconst 1, 1) := by decide +kernel
theorem dl_304 : decode code 304 = .ok (.iadd, 1) := by decide +kernel
theorem dl_305 : decode code 305 = .ok (.iaload, 1) := by decide +kernel
theorem dl_306 : decode code 306 = .ok (.invokevirtual 27, 3) := by decide +kernel
theorem dl_309 : decode code 309 = .ok (.if_icmp .eq 1262, 3) := by decide +kernel
theorem dl_312 : decode code 312 = .ok (.iconst 0, 1) := by decide +kernel
theorem dl_313 : decode code 313 = .ok (.ireturn, 1) := by decide +kernel
theorem dl_314 : decode code 314 = .ok (.aload_n 1, 1) := by decide +kernel
theorem dl_315 : decode code 315 = .ok (.aload_n 0, 1) := by decide +kernel
theorem dl_316 : decode code 316 = .ok (.iload 4, 2) := by decide +kernel
theorem dl_318 : decode code 318 = .ok (.iconst 1, 1) := by decide +kernel
theorem dl_319 : decode code 319 = .ok (.iadd, 1) := by decide +kernel
theorem dl_320 : decode code 320 = .ok (.iaload, 1) := by decide +kernel
theorem dl_321 : decode code 321 = .ok (.invokevirtual 28, 3) := by decide +kernel
theorem dl_324 : decode code 324 = .ok (.aload_n 2, 1) := by decide +kernel
theorem dl_325 : decode code 325 = .ok (.aload_n 0, 1) := by decide +kernel
theorem dl_326 : decode code 326 = .ok (.iload 4, 2) := by decide +kernel
theorem dl_328 : decode code 328 = .ok (.iconst 1, 1) := by decide +kernel
theorem dl_329 : decode code 329 = .ok (.iadd, 1) := by decide +kernel
theorem dl_330 : decode code 330 = .ok (.iaload, 1) := by decide +kernel
theorem dl_331 : decode code 331 = .ok (.invokevirtual 31, 3) := by decide +kernel
theorem dl_334 : decode code 334 = .ok (.if_icmp .eq 1237, 3) := by decide +kernel
theorem dl_337 : decode code 337 = .ok (.iconst 0, 1) := by decide +kernel
theorem dl_338 : decode code 338 = .ok (.ireturn, 1) := by decide +kernel
theorem dl_339 : decode code 339 = .ok (.aload_n 1, 1) := by decide +kernel
theorem dl_340 : decode code 340 = .ok (.invokevirtual 32, 3) := by decide +kernel
theorem dl_343 : decode code 343 = .ok (.aload_n 2, 1) := by decide +kernel
theorem dl_344 : decode code 344 = .ok (.invokevirtual 36, 3) := by decide +kernel
theorem dl_347 : decode code 347 = .ok (.if_icmp .eq 1224, 3) := by decide +kernel
theorem dl_350 : decode code 350 = .ok (.iconst 0, 1) := by decide +kernel
theorem dl_351 : decode code 351 = .ok (.ireturn, 1) := by decide +kernel
theorem dl_352 : decode code 352 = .ok (.aload_n 1, 1) := by decide +kernel
theorem dl_353 : decode code 353 = .ok (.invokevirtual 37, 3) := by decide +kernel
theorem dl_356 : decode code 356 = .ok (.aload_n 2, 1) := by decide +kernel
theorem dl_357 : decode code 357 = .ok (.invokevirtual 40, 3) := by decide +kernel
theorem dl_360 : decode code 360 = .ok (.if_icmp .eq 1211, 3) := by decide +kernel
theorem dl_363 : decode code 363 = .ok (.iconst 0, 1) := by decide +kernel
theorem dl_364 : decode code 364 = .ok (.ireturn, 1) := by decide +kernel
theorem dl_365 : decode code 365 = .ok (.aload_n 1, 1) := by decide +kernel
theorem dl_366 : decode code 366 = .ok (.aload_n 0, 1) := by decide +kernel
theorem dl_367 : decode code 367 = .ok (.iload 4, 2) := by decide +kernel
theorem dl_369 : decode code 369 = .ok (.iconst 1, 1) := by decide +kernel
theorem dl_370 : decode code 370 = .ok (.iadd, 1) := by decide +kernel
theorem dl_371 : decode code 371 = .ok (.iaload, 1) := by decide +kernel
theorem dl_372 : decode code 372 = .ok (.invokevirtual 41, 3) := by decide +kernel
theorem dl_375 : decode code 375 = .ok (.aload_n 2, 1) := by decide +kernel
theorem dl_376 : decode code 376 = .ok (.aload_n 0, 1) := by decide +kernel
theorem dl_377 : decode code 377 = .ok (.iload 4, 2) := by decide +kernel
theorem dl_379 : decode code 379 = .ok (.iconst 1, 1) := by decide +kernel
theorem dl_380 : decode code 380 = .ok (.iadd, 1) := by decide +kernel
theorem dl_381 : decode code 381 = .ok (.iaload, 1) := by decide +kernel
theorem dl_382 : decode code 382 = .ok (.invokevirtual 44, 3) := by decide +kernel
theorem dl_385 : decode code 385 = .ok (.if_icmp .eq 1186, 3) := by decide +kernel
theorem dl_388 : decode code 388 = .ok (.iconst 0, 1) := by decide +kernel
theorem dl_389 : decode code 389 = .ok (.ireturn, 1) := by decide +kernel
theorem dl_390 : decode code 390 = .ok (.aload_n 1, 1) := by decide +kernel
theorem dl_391 : decode code 391 = .ok (.aload_n 0, 1) := by decide +kernel
theorem dl_392 : decode code 392 = .ok (.iload 4, 2) := by decide +kernel
theorem dl_394 : decode code 394 = .ok (.iconst 1, 1) := by decide +kernel
theorem dl_395 : decode code 395 = .ok (.iadd, 1) := by decide +kernel
theorem dl_396 : decode code 396 = .ok (.iaload, 1) := by decide +kernel
theorem dl_397 : decode code 397 = .ok (.aload_n 0, 1) := by decide +kernel
theorem dl_398 : decode code 398 = .ok (.iload 4, 2) := by decide +kernel
theorem dl_400 : decode code 400 = .ok (.iconst 2, 1) := by decide +kernel
theorem dl_401 : decode code 401 = .ok (.iadd, 1) := by decide +kernel
theorem dl_402 : decode code 402 = .ok (.iaload, 1) := by decide +kernel
theorem dl_403 : decode code 403 = .ok (.aload_n 0, 1) := by decide +kernel
theorem dl_404 : decode code 404 = .ok (.iload 4, 2) := by decide +kernel
theorem dl_406 : decode code 406 = .ok (.iconst 3, 1) := by decide +kernel
theorem dl_407 : decode code 407 = .ok (.iadd, 1) := by decide +kernel
theorem dl_408 : decode code 408 = .ok (.iaload, 1) := by decide +kernel
theorem dl_409 : decode code 409 = .ok (.invokevirtual 45, 3) := by decide +kernel
theorem dl_412 : decode code 412 = .ok (.aload_n 2, 1) := by decide +kernel
theorem dl_413 : decode code 413 = .ok (.aload_n 0, 1) := by decide +kernel
theorem dl_414 : decode code 414 = .ok (.iload 4, 2) := by decide +kernel
theorem dl_416 : decode code 416 = .ok (.iconst 1, 1) := by decide +kernel
theorem dl_417 : decode code 417 = .ok (.iadd, 1) := by decide +kernel
theorem dl_418 : decode code 418 = .ok (.iaload, 1) := by decide +kernel
theorem dl_419 : decode code 419 = .ok (.aload_n 0, 1) := by decide +kernel
theorem dl_420 : decode code 420 = .ok (.iload 4, 2) := by decide +kernel
theorem dl_422 : decode code 422 = .ok (.iconst 2, 1) := by decide +kernel
theorem dl_423 : decode code 423 = .ok (.iadd, 1) := by decide +kernel
theorem dl_424 : decode code 424 = .ok (.iaload, 1) := by decide +kernel
theorem dl_425 : decode code 425 = .ok (.aload_n 0, 1) := by decide +kernel
theorem dl_426 : decode code 426 = .ok (.iload 4, 2) := by decide +kernel
theorem dl_428 : decode code 428 = .ok (.iconst 3, 1) := by decide +kernel
theorem dl_429 : decode code 429 = .ok (.iadd, 1) := by decide +kernel
theorem dl_430 : decode code 430 = .ok (.iaload, 1) := by decide +kernel
theorem dl_431 : decode code 431 = .ok (.invokevirtual 49, 3) := by decide +kernel
theorem dl_434 : decode code 434 = .ok (.if_icmp .eq 1137, 3) := by decide +kernel
theorem dl_437 : decode code 437 = .ok (.iconst 0, 1) := by decide +kernel
theorem dl_438 : decode code 438 = .ok (.ireturn, 1) := by decide +kernel
theorem dl_439 : decode code 439 = .ok (.aload_n 1, 1) := by decide +kernel
theorem dl_440 : decode code 440 = .ok (.aload_n 0, 1) := by decide +kernel
theorem dl_441 : decode code 441 = .ok (.iload 4, 2) := by decide +kernel
theorem dl_443 : decode code 443 = .ok (.iconst 1, 1) := by decide +kernel
theorem dl_444 : decode code 444 = .ok (.iadd, 1) := by decide +kernel
theorem dl_445 : decode code 445 = .ok (.iaload, 1) := by decide +kernel
theorem dl_446 : decode code 446 = .ok (.aload_n 0, 1) := by decide +kernel
theorem dl_447 : decode code 447 = .ok (.iload 4, 2) := by decide +kernel
theorem dl_449 : decode code 449 = .ok (.iconst 2, 1) := by decide +kernel
theorem dl_450 : decode code 450 = .ok (.iadd, 1) := by decide +kernel
theorem dl_451 : decode code 451 = .ok (.iaload, 1) := by decide +kernel
theorem dl_452 : decode code 452 = .ok (.aload_n 0, 1) := by decide +kernel
theorem dl_453 : decode code 453 = .ok (.iload 4, 2) := by decide +kernel
theorem dl_455 : decode code 455 = .ok (.iconst 3, 1) := by decide +kernel
theorem dl_456 : decode code 456 = .ok (.iadd, 1) := by decide +kernel
theorem dl_457 : decode code 457 = .ok (.iaload, 1) := by decide +kernel
theorem dl_458 : decode code 458 = .ok (.invokevirtual 50, 3) := by decide +kernel
theorem dl_461 : decode code 461 = .ok (.aload_n 2, 1) := by decide +kernel
theorem dl_462 : decode code 462 = .ok (.aload_n 0, 1) := by decide +kernel
theorem dl_463 : decode code 463 = .ok (.iload 4, 2) := by decide +kernel
theorem dl_465 : decode code 465 = .ok (.iconst 1, 1) := by decide +kernel
theorem dl_466 : decode code 466 = .ok (.iadd, 1) := by decide +kernel
theorem dl_467 : decode code 467 = .ok (.iaload, 1) := by decide +kernel
theorem dl_468 : decode code 468 = .ok (.aload_n 0, 1) := by decide +kernel
theorem dl_469 : decode code 469 = .ok (.iload 4, 2) := by decide +kernel
theorem dl_471 : decode code 471 = .ok (.iconst 2, 1) := by decide +kernel
theorem dl_472 : decode code 472 = .ok (.iadd, 1) := by decide +kernel
theorem dl_473 : decode code 473 = .ok (.iaload, 1) := by decide +kernel
theorem dl_474 : decode code 474 = .ok (.aload_n 0, 1) := by decide +kernel
theorem dl_475 : decode code 475 = .ok (.iload 4, 2) := by decide +kernel
theorem dl_477 : decode code 477 = .ok (.iconst 3, 1) := by decide +kernel
theorem dl_478 : decode code 478 = .ok (.iadd, 1) := by decide +kernel
theorem dl_479 : decode code 479 = .ok (.iaload, 1) := by decide +kernel
theorem dl_480 : decode code 480 = .ok (.invokevirtual 53, 3) := by decide +kernel
theorem dl_483 : decode code 483 = .ok (.if_icmp .eq 1088, 3) := by decide +kernel
theorem dl_486 : decode code 486 = .ok (.iconst 0, 1) := by decide +kernel
theorem dl_487 : decode code 487 = .ok (.ireturn, 1) := by decide +kernel
theorem dl_488 : decode code 488 = .ok (.aload_n 1, 1) := by decide +kernel
theorem dl_489 : decode code 489 = .ok (.aload_n 0, 1) := by decide +kernel
theorem dl_490 : decode code 490 = .ok (.iload 4, 2) := by decide +kernel
theorem dl_492 : decode code 492 = .ok (.iconst 1, 1) := by decide +kernel
theorem dl_493 : decode code 493 = .ok (.iadd, 1) := by decide +kernel
theorem dl_494 : decode code 494 = .ok (.iaload, 1) := by decide +kernel
theorem dl_495 : decode code 495 = .ok (.aload_n 0, 1) := by decide +kernel
theorem dl_496 : decode code 496 = .ok (.iload 4, 2) := by decide +kernel
theorem dl_498 : decode code 498 = .ok (.iconst 2, 1) := by decide +kernel
theorem dl_499 : decode code 499 = .ok (.iadd, 1) := by decide +kernel
theorem dl_500 : decode code 500 = .ok (.iaload, 1) := by decide +kernel
theorem dl_501 : decode code 501 = .ok (.invokevirtual 54, 3) := by decide +kernel
theorem dl_504 : decode code 504 = .ok (.aload_n 2, 1) := by decide +kernel
theorem dl_505 : decode code 505 = .ok (.aload_n 0, 1) := by decide +kernel
theorem dl_506 : decode code 506 = .ok (.iload 4, 2) := by decide +kernel
theorem dl_508 : decode code 508 = .ok (.iconst 1, 1) := by decide +kernel
theorem dl_509 : decode code 509 = .ok (.iadd, 1) := by decide +kernel
theorem dl_510 : decode code 510 = .ok (.iaload, 1) := by decide +kernel
theorem dl_511 : decode code 511 = .ok (.aload_n 0, 1) := by decide +kernel
theorem dl_512 : decode code 512 = .ok (.iload 4, 2) := by decide +kernel
theorem dl_514 : decode code 514 = .ok (.iconst 2, 1) := by decide +kernel
theorem dl_515 : decode code 515 = .ok (.iadd, 1) := by decide +kernel
theorem dl_516 : decode code 516 = .ok (.iaload, 1) := by decide +kernel
theorem dl_517 : decode code 517 = .ok (.invokevirtual 58, 3) := by decide +kernel
theorem dl_520 : decode code 520 = .ok (.if_icmp .eq 1051, 3) := by decide +kernel
theorem dl_523 : decode code 523 = .ok (.iconst 0, 1) := by decide +kernel
theorem dl_524 : decode code 524 = .ok (.ireturn, 1) := by decide +kernel
theorem dl_525 : decode code 525 = .ok (.aload_n 1, 1) := by decide +kernel
theorem dl_526 : decode code 526 = .ok (.aload_n 0, 1) := by decide +kernel
theorem dl_527 : decode code 527 = .ok (.iload 4, 2) := by decide +kernel
theorem dl_529 : decode code 529 = .ok (.iconst 1, 1) := by decide +kernel
theorem dl_530 : decode code 530 = .ok (.iadd, 1) := by decide +kernel
theorem dl_531 : decode code 531 = .ok (.iaload, 1) := by decide +kernel
theorem dl_532 : decode code 532 = .ok (.aload_n 0, 1) := by decide +kernel
theorem dl_533 : decode code 533 = .ok (.iload 4, 2) := by decide +kernel
theorem dl_535 : decode code 535 = .ok (.iconst 2, 1) := by decide +kernel
theorem dl_536 : decode code 536 = .ok (.iadd, 1) := by decide +kernel
theorem dl_537 : decode code 537 = .ok (.iaload, 1) := by decide +kernel
theorem dl_538 : decode code 538 = .ok (.invokevirtual 59, 3) := by decide +kernel
theorem dl_541 : decode code 541 = .ok (.aload_n 2, 1) := by decide +kernel
theorem dl_542 : decode code 542 = .ok (.aload_n 0, 1) := by decide +kernel
theorem dl_543 : decode code 543 = .ok (.iload 4, 2) := by decide +kernel
theorem dl_545 : decode code 545 = .ok (.iconst 1, 1) := by decide +kernel
theorem dl_546 : decode code 546 = .ok (.iadd, 1) := by decide +kernel
theorem dl_547 : decode code 547 = .ok (.iaload, 1) := by decide +kernel
theorem dl_548 : decode code 548 = .ok (.aload_n 0, 1) := by decide +kernel
theorem dl_549 : decode code 549 = .ok (.iload 4, 2) := by decide +kernel
theorem dl_551 : decode code 551 = .ok (.iconst 2, 1) := by decide +kernel
theorem dl_552 : decode code 552 = .ok (.iadd, 1) := by decide +kernel
theorem dl_553 : decode code 553 = .ok (.iaload, 1) := by decide +kernel
theorem dl_554 : decode code 554 = .ok (.invokevirtual 62, 3) := by decide +kernel
theorem dl_557 : decode code 557 = .ok (.if_icmp .eq 1014, 3) := by decide +kernel
theorem dl_560 : decode code 560 = .ok (.iconst 0, 1) := by decide +kernel
theorem dl_561 : decode code 561 = .ok (.ireturn, 1) := by decide +kernel
theorem dl_562 : decode code 562 = .ok (.aload_n 1, 1) := by decide +kernel
theorem dl_563 : decode code 563 = .ok (.aload_n 0, 1) := by decide +kernel
theorem dl_564 : decode code 564 = .ok (.iload 4, 2) := by decide +kernel
theorem dl_566 : decode code 566 = .ok (.iconst 1, 1) := by decide +kernel
theorem dl_567 : decode code 567 = .ok (.iadd, 1) := by decide +kernel
theorem dl_568 : decode code 568 = .ok (.iaload, 1) := by decide +kernel
theorem dl_569 : decode code 569 = .ok (.invokevirtual 63, 3) := by decide +kernel
theorem dl_572 : decode code 572 = .ok (.aload_n 2, 1) := by decide +kernel
theorem dl_573 : decode code 573 = .ok (.aload_n 0, 1) := by decide +kernel
theorem dl_574 : decode code 574 = .ok (.iload 4, 2) := by decide +kernel
theorem dl_576 : decode code 576 = .ok (.iconst 1, 1) := by decide +kernel
theorem dl_577 : decode code 577 = .ok (.iadd, 1) := by decide +kernel
theorem dl_578 : decode code 578 = .ok (.iaload, 1) := by decide +kernel
theorem dl_579 : decode code 579 = .ok (.invokevirtual 66, 3) := by decide +kernel
theorem dl_582 : decode code 582 = .ok (.if_icmp .eq 989, 3) := by decide +kernel
theorem dl_585 : decode code 585 = .ok (.iconst 0, 1) := by decide +kernel
theorem dl_586 : decode code 586 = .ok (.ireturn, 1) := by decide +kernel
theorem dl_587 : decode code 587 = .ok (.aload_n 1, 1) := by decide +kernel
theorem dl_588 : decode code 588 = .ok (.aload_n 0, 1) := by decide +kernel
theorem dl_589 : decode code 589 = .ok (.iload 4, 2) := by decide +kernel
theorem dl_591 : decode code 591 = .ok (.iconst 1, 1) := by decide +kernel
theorem dl_592 : decode code 592 = .ok (.iadd, 1) := by decide +kernel
theorem dl_593 : decode code 593 = .ok (.iaload, 1) := by decide +kernel
theorem dl_594 : decode code 594 = .ok (.aload_n 0, 1) := by decide +kernel
theorem dl_595 : decode code 595 = .ok (.iload 4, 2) := by decide +kernel
theorem dl_597 : decode code 597 = .ok (.iconst 2, 1) := by decide +kernel
theorem dl_598 : decode code 598 = .ok (.iadd, 1) := by decide +kernel
theorem dl_599 : decode code 599 = .ok (.iaload, 1) := by decide +kernel
theorem dl_600 : decode code 600 = .ok (.aload_n 0, 1) := by decide +kernel
theorem dl_601 : decode code 601 = .ok (.iload 4, 2) := by decide +kernel
theorem dl_603 : decode code 603 = .ok (.iconst 3, 1) := by decide +kernel
theorem dl_604 : decode code 604 = .ok (.iadd, 1) := by decide +kernel
theorem dl_605 : decode code 605 = .ok (.iaload, 1) := by decide +kernel
theorem dl_606 : decode code 606 = .ok (.invokevirtual 67, 3) := by decide +kernel
theorem dl_609 : decode code 609 = .ok (.aload_n 2, 1) := by decide +kernel
theorem dl_610 : decode code 610 = .ok (.aload_n 0, 1) := by decide +kernel
theorem dl_611 : decode code 611 = .ok (.iload 4, 2) := by decide +kernel
theorem dl_613 : decode code 613 = .ok (.iconst 1, 1) := by decide +kernel
theorem dl_614 : decode code 614 = .ok (.iadd, 1) := by decide +kernel
theorem dl_615 : decode code 615 = .ok (.iaload, 1) := by decide +kernel
theorem dl_616 : decode code 616 = .ok (.aload_n 0, 1) := by decide +kernel
theorem dl_617 : decode code 617 = .ok (.iload 4, 2) := by decide +kernel
theorem dl_619 : decode code 619 = .ok (.iconst 2, 1) := by decide +kernel
theorem dl_620 : decode code 620 = .ok (.iadd, 1) := by decide +kernel
theorem dl_621 : decode code 621 = .ok (.iaload, 1) := by decide +kernel
theorem dl_622 : decode code 622 = .ok (.aload_n 0, 1) := by decide +kernel
theorem dl_623 : decode code 623 = .ok (.iload 4, 2) := by decide +kernel
theorem dl_625 : decode code 625 = .ok (.iconst 3, 1) := by decide +kernel
theorem dl_626 : decode code 626 = .ok (.iadd, 1) := by decide +kernel
theorem dl_627 : decode code 627 = .ok (.iaload, 1) := by decide +kernel
theorem dl_628 : decode code 628 = .ok (.invokevirtual 70, 3) := by decide +kernel
theorem dl_631 : decode code 631 = .ok (.if_icmp .eq 940, 3) := by decide +kernel
theorem dl_634 : decode code 634 = .ok (.iconst 0, 1) := by decide +kernel
theorem dl_635 : decode code 635 = .ok (.ireturn, 1) := by decide +kernel
theorem dl_636 : decode code 636 = .ok (.aload_n 1, 1) := by decide +kernel
theorem dl_637 : decode code 637 = .ok (.aload_n 0, 1) := by decide +kernel
theorem dl_638 : decode code 638 = .ok (.iload 4, 2) := by decide +kernel
theorem dl_640 : decode code 640 = .ok (.iconst 1, 1) := by decide +kernel
theorem dl_641 : decode code 641 = .ok (.iadd, 1) := by decide +kernel
theorem dl_642 : decode code 642 = .ok (.iaload, 1) := by decide +kernel
theorem dl_643 : decode code 643 = .ok (.aload_n 0, 1) := by decide +kernel
theorem dl_644 : decode code 644 = .ok (.iload 4, 2) := by decide +kernel
theorem dl_646 : decode code 646 = .ok (.iconst 2, 1) := by decide +kernel
theorem dl_647 : decode code 647 = .ok (.iadd, 1) := by decide +kernel
theorem dl_648 : decode code 648 = .ok (.iaload, 1) := by decide +kernel
theorem dl_649 : decode code 649 = .ok (.aload_n 0, 1) := by decide +kernel
theorem dl_650 : decode code 650 = .ok (.iload 4, 2) := by decide +kernel
theorem dl_652 : decode code 652 = .ok (.iconst 3, 1) := by decide +kernel
theorem dl_653 : decode code 653 = .ok (.iadd, 1) := by decide +kernel
theorem dl_654 : decode code 654 = .ok (.iaload, 1) := by decide +kernel
theorem dl_655 : decode code 655 = .ok (.invokevirtual 71, 3) := by decide +kernel
theorem dl_658 : decode code 658 = .ok (.aload_n 2, 1) := by decide +kernel
theorem dl_659 : decode code 659 = .ok (.aload_n 0, 1) := by decide +kernel
theorem dl_660 : decode code 660 = .ok (.iload 4, 2) := by decide +kernel
theorem dl_662 : decode code 662 = .ok (.iconst 1, 1) := by decide +kernel
theorem dl_663 : decode code 663 = .ok (.iadd, 1) := by decide +kernel
theorem dl_664 : decode code 664 = .ok (.iaload, 1) := by decide +kernel
theorem dl_665 : decode code 665 = .ok (.aload_n 0, 1) := by decide +kernel
theorem dl_666 : decode code 666 = .ok (.iload 4, 2) := by decide +kernel
theorem dl_668 : decode code 668 = .ok (.iconst 2, 1) := by decide +kernel
theorem dl_669 : decode code 669 = .ok (.iadd, 1) := by decide +kernel
theorem dl_670 : decode code 670 = .ok (.iaload, 1) := by decide +kernel
theorem dl_671 : decode code 671 = .ok (.aload_n 0, 1) := by decide +kernel
theorem dl_672 : decode code 672 = .ok (.iload 4, 2) := by decide +kernel
theorem dl_674 : decode code 674 = .ok (.iconst 3, 1) := by decide +kernel
theorem dl_675 : decode code 675 = .ok (.iadd, 1) := by decide +kernel
theorem dl_676 : decode code 676 = .ok (.iaload, 1) := by decide +kernel
theorem dl_677 : decode code 677 = .ok (.invokevirtual 74, 3) := by decide +kernel
theorem dl_680 : decode code 680 = .ok (.if_icmp .eq 891, 3) := by decide +kernel
theorem dl_683 : decode code 683 = .ok (.iconst 0, 1) := by decide +kernel
theorem dl_684 : decode code 684 = .ok (.ireturn, 1) := by decide +kernel
theorem dl_685 : decode code 685 = .ok (.aload_n 1, 1) := by decide +kernel
theorem dl_686 : decode code 686 = .ok (.aload_n 0, 1) := by decide +kernel
theorem dl_687 : decode code 687 = .ok (.iload 4, 2) := by decide +kernel
theorem dl_689 : decode code 689 = .ok (.iconst 1, 1) := by decide +kernel
theorem dl_690 : decode code 690 = .ok (.iadd, 1) := by decide +kernel
theorem dl_691 : decode code 691 = .ok (.iaload, 1) := by decide +kernel
theorem dl_692 : decode code 692 = .ok (.aload_n 0, 1) := by decide +kernel
theorem dl_693 : decode code 693 = .ok (.iload 4, 2) := by decide +kernel
theorem dl_695 : decode code 695 = .ok (.iconst 2, 1) := by decide +kernel
theorem dl_696 : decode code 696 = .ok (.iadd, 1) := by decide +kernel
theorem dl_697 : decode code 697 = .ok (.iaload, 1) := by decide +kernel
theorem dl_698 : decode code 698 = .ok (.aload_n 0, 1) := by decide +kernel
theorem dl_699 : decode code 699 = .ok (.iload 4, 2) := by decide +kernel
theorem dl_701 : decode code 701 = .ok (.iconst 3, 1) := by decide +kernel
theorem dl_702 : decode code 702 = .ok (.iadd, 1) := by decide +kernel
theorem dl_703 : decode code 703 = .ok (.iaload, 1) := by decide +kernel
theorem dl_704 : decode code 704 = .ok (.invokevirtual 75, 3) := by decide +kernel
theorem dl_707 : decode code 707 = .ok (.aload_n 2, 1) := by decide +kernel
theorem dl_708 : decode code 708 = .ok (.aload_n 0, 1) := by decide +kernel
theorem dl_709 : decode code 709 = .ok (.iload 4, 2) := by decide +kernel
theorem dl_711 : decode code 711 = .ok (.iconst 1, 1) := by decide +kernel
theorem dl_712 : decode code 712 = .ok (.iadd, 1) := by decide +kernel
theorem dl_713 : decode code 713 = .ok (.iaload, 1) := by decide +kernel
theorem dl_714 : decode code 714 = .ok (.aload_n 0, 1) := by decide +kernel
theorem dl_715 : decode code 715 = .ok (.iload 4, 2) := by decide +kernel
theorem dl_717 : decode code 717 = .ok (.iconst 2, 1) := by decide +kernel
theorem dl_718 : decode code 718 = .ok (.iadd, 1) := by decide +kernel
theorem dl_719 : decode code 719 = .ok (.iaload, 1) := by decide +kernel
theorem dl_720 : decode code 720 = .ok (.aload_n 0, 1) := by decide +kernel
theorem dl_721 : decode code 721 = .ok (.iload 4, 2) := by decide +kernel
theorem dl_723 : decode code 723 = .ok (.iconst 3, 1) := by decide +kernel
theorem dl_724 : decode code 724 = .ok (.iadd, 1) := by decide +kernel
theorem dl_725 : decode code 725 = .ok (.iaload, 1) := by decide +kernel
theorem dl_726 : decode code 726 = .ok (.invokevirtual 78, 3) := by decide +kernel
theorem dl_729 : decode code 729 = .ok (.if_icmp .eq 842, 3) := by decide +kernel
theorem dl_732 : decode code 732 = .ok (.iconst 0, 1) := by decide +kernel
theorem dl_733 : decode code 733 = .ok (.ireturn, 1) := by decide +kernel
theorem dl_734 : decode code 734 = .ok (.aload_n 1, 1) := by decide +kernel
theorem dl_735 : decode code 735 = .ok (.invokevirtual 79, 3) := by decide +kernel
theorem dl_738 : decode code 738 = .ok (.aload_n 2, 1) := by decide +kernel
theorem dl_739 : decode code 739 = .ok (.invokevirtual 82, 3) := by decide +kernel
theorem dl_742 : decode code 742 = .ok (.if_icmp .eq 829, 3) := by decide +kernel
theorem dl_745 : decode code 745 = .ok (.iconst 0, 1) := by decide +kernel
theorem dl_746 : decode code 746 = .ok (.ireturn, 1) := by decide +kernel
theorem dl_747 : decode code 747 = .ok (.aload_n 1, 1) := by decide +kernel
theorem dl_748 : decode code 748 = .ok (.aload_n 0, 1) := by decide +kernel
theorem dl_749 : decode code 749 = .ok (.iload 4, 2) := by decide +kernel
theorem dl_751 : decode code 751 = .ok (.iconst 1, 1) := by decide +kernel
theorem dl_752 : decode code 752 = .ok (.iadd, 1) := by decide +kernel
theorem dl_753 : decode code 753 = .ok (.iaload, 1) := by decide +kernel
theorem dl_754 : decode code 754 = .ok (.aload_n 0, 1) := by decide +kernel
theorem dl_755 : decode code 755 = .ok (.iload 4, 2) := by decide +kernel
theorem dl_757 : decode code 757 = .ok (.iconst 2, 1) := by decide +kernel
theorem dl_758 : decode code 758 = .ok (.iadd, 1) := by decide +kernel
theorem dl_759 : decode code 759 = .ok (.iaload, 1) := by decide +kernel
theorem dl_760 : decode code 760 = .ok (.invokevirtual 83, 3) := by decide +kernel
theorem dl_763 : decode code 763 = .ok (.aload_n 2, 1) := by decide +kernel
theorem dl_764 : decode code 764 = .ok (.aload_n 0, 1) := by decide +kernel
theorem dl_765 : decode code 765 = .ok (.iload 4, 2) := by decide +kernel
theorem dl_767 : decode code 767 = .ok (.iconst 1, 1) := by decide +kernel
theorem dl_768 : decode code 768 = .ok (.iadd, 1) := by decide +kernel
theorem dl_769 : decode code 769 = .ok (.iaload, 1) := by decide +kernel
theorem dl_770 : decode code 770 = .ok (.aload_n 0, 1) := by decide +kernel
theorem dl_771 : decode code 771 = .ok (.iload 4, 2) := by decide +kernel
theorem dl_773 : decode code 773 = .ok (.iconst 2, 1) := by decide +kernel
theorem dl_774 : decode code 774 = .ok (.iadd, 1) := by decide +kernel
theorem dl_775 : decode code 775 = .ok (.iaload, 1) := by decide +kernel
theorem dl_776 : decode code 776 = .ok (.invokevirtual 86, 3) := by decide +kernel
theorem dl_779 : decode code 779 = .ok (.if_icmp .eq 792, 3) := by decide +kernel
theorem dl_782 : decode code 782 = .ok (.iconst 0, 1) := by decide +kernel
theorem dl_783 : decode code 783 = .ok (.ireturn, 1) := by decide +kernel
theorem dl_784 : decode code 784 = .ok (.aload_n 1, 1) := by decide +kernel
theorem dl_785 : decode code 785 = .ok (.aload_n 0, 1) := by decide +kernel
theorem dl_786 : decode code 786 = .ok (.iload 4, 2) := by decide +kernel
theorem dl_788 : decode code 788 = .ok (.iconst 1, 1) := by decide +kernel
theorem dl_789 : decode code 789 = .ok (.iadd, 1) := by decide +kernel
theorem dl_790 : decode code 790 = .ok (.iaload, 1) := by decide +kernel
theorem dl_791 : decode code 791 = .ok (.aload_n 0, 1) := by decide +kernel
theorem dl_792 : decode code 792 = .ok (.iload 4, 2) := by decide +kernel
theorem dl_794 : decode code 794 = .ok (.iconst 2, 1) := by decide +kernel
theorem dl_795 : decode code 795 = .ok (.iadd, 1) := by decide +kernel
theorem dl_796 : decode code 796 = .ok (.iaload, 1) := by decide +kernel
theorem dl_797 : decode code 797 = .ok (.invokevirtual 87, 3) := by decide +kernel
theorem dl_800 : decode code 800 = .ok (.aload_n 2, 1) := by decide +kernel
theorem dl_801 : decode code 801 = .ok (.aload_n 0, 1) := by decide +kernel
theorem dl_802 : decode code 802 = .ok (.iload 4, 2) := by decide +kernel
theorem dl_804 : decode code 804 = .ok (.iconst 1, 1) := by decide +kernel
theorem dl_805 : decode code 805 = .ok (.iadd, 1) := by decide +kernel
theorem dl_806 : decode code 806 = .ok (.iaload, 1) := by decide +kernel
theorem dl_807 : decode code 807 = .ok (.aload_n 0, 1) := by decide +kernel
theorem dl_808 : decode code 808 = .ok (.iload 4, 2) := by decide +kernel
theorem dl_810 : decode code 810 = .ok (.iconst 2, 1) := by decide +kernel
theorem dl_811 : decode code 811 = .ok (.iadd, 1) := by decide +kernel
theorem dl_812 : decode code 812 = .ok (.iaload, 1) := by decide +kernel
theorem dl_813 : decode code 813 = .ok (.invokevirtual 90, 3) := by decide +kernel
theorem dl_816 : decode code 816 = .ok (.if_icmp .eq 755, 3) := by decide +kernel
theorem dl_819 : decode code 819 = .ok (.iconst 0, 1) := by decide +kernel
theorem dl_820 : decode code 820 = .ok (.ireturn, 1) := by decide +kernel
theorem dl_821 : decode code 821 = .ok (.aload_n 1, 1) := by decide +kernel
theorem dl_822 : decode code 822 = .ok (.aload_n 0, 1) := by decide +kernel
theorem dl_823 : decode code 823 = .ok (.iload 4, 2) := by decide +kernel
theorem dl_825 : decode code 825 = .ok (.iconst 1, 1) := by decide +kernel
theorem dl_826 : decode code 826 = .ok (.iadd, 1) := by decide +kernel
theorem dl_827 : decode code 827 = .ok (.iaload, 1) := by decide +kernel
theorem dl_828 : decode code 828 = .ok (.invokevirtual 91, 3) := by decide +kernel
theorem dl_831 : decode code 831 = .ok (.aload_n 2, 1) := by decide +kernel
theorem dl_832 : decode code 832 = .ok (.aload_n 0, 1) := by decide +kernel
theorem dl_833 : decode code 833 = .ok (.iload 4, 2) := by decide +kernel
theorem dl_835 : decode code 835 = .ok (.iconst 1, 1) := by decide +kernel
theorem dl_836 : decode code 836 = .ok (.iadd, 1) := by decide +kernel
theorem dl_837 : decode code 837 = .ok (.iaload, 1) := by decide +kernel
theorem dl_838 : decode code 838 = .ok (.invokevirtual 94, 3) := by decide +kernel
theorem dl_841 : decode code 841 = .ok (.if_icmp .eq 730, 3) := by decide +kernel
theorem dl_844 : decode code 844 = .ok (.iconst 0, 1) := by decide +kernel
theorem dl_845 : decode code 845 = .ok (.ireturn, 1) := by decide +kernel
theorem dl_846 : decode code 846 = .ok (.aload_n 1, 1) := by decide +kernel
theorem dl_847 : decode code 847 = .ok (.aload_n 0, 1) := by decide +kernel
theorem dl_848 : decode code 848 = .ok (.iload 4, 2) := by decide +kernel
theorem dl_850 : decode code 850 = .ok (.iconst 1, 1) := by decide +kernel
theorem dl_851 : decode code 851 = .ok (.iadd, 1) := by decide +kernel
theorem dl_852 : decode code 852 = .ok (.iaload, 1) := by decide +kernel
theorem dl_853 : decode code 853 = .ok (.aload_n 0, 1) := by decide +kernel
theorem dl_854 : decode code 854 = .ok (.iload 4, 2) := by decide +kernel
theorem dl_856 : decode code 856 = .ok (.iconst 2, 1) := by decide +kernel
theorem dl_857 : decode code 857 = .ok (.iadd, 1) := by decide +kernel
theorem dl_858 : decode code 858 = .ok (.iaload, 1) := by decide +kernel
theorem dl_859 : decode code 859 = .ok (.invokevirtual 95, 3) := by decide +kernel
theorem dl_862 : decode code 862 = .ok (.aload_n 2, 1) := by decide +kernel
theorem dl_863 : decode code 863 = .ok (.aload_n 0, 1) := by decide +kernel
theorem dl_864 : decode code 864 = .ok (.iload 4, 2) := by decide +kernel
theorem dl_866 : decode code 866 = .ok (.iconst 1, 1) := by decide +kernel
theorem dl_867 : decode code 867 = .ok (.iadd, 1) := by decide +kernel
theorem dl_868 : decode code 868 = .ok (.iaload, 1) := by decide +kernel
theorem dl_869 : decode code 869 = .ok (.aload_n 0, 1) := by decide +kernel
theorem dl_870 : decode code 870 = .ok (.iload 4, 2) := by decide +kernel
theorem dl_872 : decode code 872 = .ok (.iconst 2, 1) := by decide +kernel
theorem dl_873 : decode code 873 = .ok (.iadd, 1) := by decide +kernel
theorem dl_874 : decode code 874 = .ok (.iaload, 1) := by decide +kernel
theorem dl_875 : decode code 875 = .ok (.invokevirtual 98, 3) := by decide +kernel
theorem dl_878 : decode code 878 = .ok (.if_icmp .eq 693, 3) := by decide +kernel
theorem dl_881 : decode code 881 = .ok (.iconst 0, 1) := by decide +kernel
theorem dl_882 : decode code 882 = .ok (.ireturn, 1) := by decide +kernel
theorem dl_883 : decode code 883 = .ok (.aload_n 1, 1) := by decide +kernel
theorem dl_884 : decode code 884 = .ok (.aload_n 0, 1) := by decide +kernel
theorem dl_885 : decode code 885 = .ok (.iload 4, 2) := by decide +kernel
theorem dl_887 : decode code 887 = .ok (.iconst 1, 1) := by decide +kernel
theorem dl_888 : decode code 888 = .ok (.iadd, 1) := by decide +kernel
theorem dl_889 : decode code 889 = .ok (.iaload, 1) := by decide +kernel
theorem dl_890 : decode code 890 = .ok (.aload_n 0, 1) := by decide +kernel
theorem dl_891 : decode code 891 = .ok (.iload 4, 2) := by decide +kernel
theorem dl_893 : decode code 893 = .ok (.iconst 2, 1) := by decide +kernel
theorem dl_894 : decode code 894 = .ok (.iadd, 1) := by decide +kernel
theorem dl_895 : decode code 895 = .ok (.iaload, 1) := by decide +kernel
theorem dl_896 : decode code 896 = .ok (.invokevirtual 99, 3) := by decide +kernel
theorem dl_899 : decode code 899 = .ok (.aload_n 2, 1) := by decide +kernel
theorem dl_900 : decode code 900 = .ok (.aload_n 0, 1) := by decide +kernel
theorem dl_901 : decode code 901 = .ok (.iload 4, 2) := by decide +kernel
theorem dl_903 : decode code 903 = .ok (.iconst 1, 1) := by decide +kernel
theorem dl_904 : decode code 904 = .ok (.iadd, 1) := by decide +kernel
theorem dl_905 : decode code 905 = .ok (.iaload, 1) := by decide +kernel
theorem dl_906 : decode code 906 = .ok (.aload_n 0, 1) := by decide +kernel
theorem dl_907 : decode code 907 = .ok (.iload 4, 2) := by decide +kernel
theorem dl_909 : decode code 909 = .ok (.iconst 2, 1) := by decide +kernel
theorem dl_910 : decode code 910 = .ok (.iadd, 1) := by decide +kernel
theorem dl_911 : decode code 911 = .ok (.iaload, 1) := by decide +kernel
theorem dl_912 : decode code 912 = .ok (.invokevirtual 102, 3) := by decide +kernel
theorem dl_915 : decode code 915 = .ok (.if_icmp .eq 656, 3) := by decide +kernel
theorem dl_918 : decode code 918 = .ok (.iconst 0, 1) := by decide +kernel
theorem dl_919 : decode code 919 = .ok (.ireturn, 1) := by decide +kernel
theorem dl_920 : decode code 920 = .ok (.aload_n 1, 1) := by decide +kernel
theorem dl_921 : decode code 921 = .ok (.invokevirtual 103, 3) := by decide +kernel
theorem dl_924 : decode code 924 = .ok (.aload_n 2, 1) := by decide +kernel
theorem dl_925 : decode code 925 = .ok (.invokevirtual 106, 3) := by decide +kernel
theorem dl_928 : decode code 928 = .ok (.if_icmp .eq 643, 3) := by decide +kernel
theorem dl_931 : decode code 931 = .ok (.iconst 0, 1) := by decide +kernel
theorem dl_932 : decode code 932 = .ok (.ireturn, 1) := by decide +kernel
theorem dl_933 : decode code 933 = .ok (.aload_n 1, 1) := by decide +kernel
theorem dl_934 : decode code 934 = .ok (.invokevirtual 107, 3) := by decide +kernel
theorem dl_937 : decode code 937 = .ok (.aload_n 2, 1) := by decide +kernel
theorem dl_938 : decode code 938 = .ok (.invokevirtual 110, 3) := by decide +kernel
theorem dl_941 : decode code 941 = .ok (.if_icmp .eq 630, 3) := by decide +kernel
theorem dl_944 : decode code 944 = .ok (.iconst 0, 1) := by decide +kernel
theorem dl_945 : decode code 945 = .ok (.ireturn, 1) := by decide +kernel
theorem dl_946 : decode code 946 = .ok (.aload_n 1, 1) := by decide +kernel
theorem dl_947 : decode code 947 = .ok (.aload_n 0, 1) := by decide +kernel
theorem dl_948 : decode code 948 = .ok (.iload 4, 2) := by decide +kernel
theorem dl_950 : decode code 950 = .ok (.iconst 1, 1) := by decide +kernel
theorem dl_951 : decode code 951 = .ok (.iadd, 1) := by decide +kernel
theorem dl_952 : decode code 952 = .ok (.iaload, 1) := by decide +kernel
theorem dl_953 : decode code 953 = .ok (.invokevirtual 111, 3) := by decide +kernel
theorem dl_956 : decode code 956 = .ok (.aload_n 2, 1) := by decide +kernel
theorem dl_957 : decode code 957 = .ok (.aload_n 0, 1) := by decide +kernel
theorem dl_958 : decode code 958 = .ok (.iload 4, 2) := by decide +kernel
theorem dl_960 : decode code 960 = .ok (.iconst 1, 1) := by decide +kernel
theorem dl_961 : decode code 961 = .ok (.iadd, 1) := by decide +kernel
theorem dl_962 : decode code 962 = .ok (.iaload, 1) := by decide +kernel
theorem dl_963 : decode code 963 = .ok (.invokevirtual 114, 3) := by decide +kernel
theorem dl_966 : decode code 966 = .ok (.if_icmp .eq 605, 3) := by decide +kernel
theorem dl_969 : decode code 969 = .ok (.iconst 0, 1) := by decide +kernel
theorem dl_970 : decode code 970 = .ok (.ireturn, 1) := by decide +kernel
theorem dl_971 : decode code 971 = .ok (.aload_n 1, 1) := by decide +kernel
theorem dl_972 : decode code 972 = .ok (.aload_n 0, 1) := by decide +kernel
theorem dl_973 : decode code 973 = .ok (.iload 4, 2) := by decide +kernel
theorem dl_975 : decode code 975 = .ok (.iconst 1, 1) := by decide +kernel
theorem dl_976 : decode code 976 = .ok (.iadd, 1) := by decide +kernel
theorem dl_977 : decode code 977 = .ok (.iaload, 1) := by decide +kernel
theorem dl_978 : decode code 978 = .ok (.invokevirtual 115, 3) := by decide +kernel
theorem dl_981 : decode code 981 = .ok (.aload_n 2, 1) := by decide +kernel
theorem dl_982 : decode code 982 = .ok (.aload_n 0, 1) := by decide +kernel
theorem dl_983 : decode code 983 = .ok (.iload 4, 2) := by decide +kernel
theorem dl_985 : decode code 985 = .ok (.iconst 1, 1) := by decide +kernel
theorem dl_986 : decode code 986 = .ok (.iadd, 1) := by decide +kernel
theorem dl_987 : decode code 987 = .ok (.iaload, 1) := by decide +kernel
theorem dl_988 : decode code 988 = .ok (.invokevirtual 118, 3) := by decide +kernel
theorem dl_991 : decode code 991 = .ok (.if_icmp .eq 580, 3) := by decide +kernel
theorem dl_994 : decode code 994 = .ok (.iconst 0, 1) := by decide +kernel
theorem dl_995 : decode code 995 = .ok (.ireturn, 1) := by decide +kernel
theorem dl_996 : decode code 996 = .ok (.aload_n 1, 1) := by decide +kernel
theorem dl_997 : decode code 997 = .ok (.aload_n 0, 1) := by decide +kernel
theorem dl_998 : decode code 998 = .ok (.iload 4, 2) := by decide +kernel
theorem dl_1000 : decode code 1000 = .ok (.iconst 1, 1) := by decide +kernel
theorem dl_1001 : decode code 1001 = .ok (.iadd, 1) := by decide +kernel
theorem dl_1002 : decode code 1002 = .ok (.iaload, 1) := by decide +kernel
theorem dl_1003 : decode code 1003 = .ok (.aload_n 0, 1) := by decide +kernel
theorem dl_1004 : decode code 1004 = .ok (.iload 4, 2) := by decide +kernel
theorem dl_1006 : decode code 1006 = .ok (.iconst 2, 1) := by decide +kernel
theorem dl_1007 : decode code 1007 = .ok (.iadd, 1) := by decide +kernel
theorem dl_1008 : decode code 1008 = .ok (.iaload, 1) := by decide +kernel
theorem dl_1009 : decode code 1009 = .ok (.aload_n 0, 1) := by decide +kernel
theorem dl_1010 : decode code 1010 = .ok (.iload 4, 2) := by decide +kernel
theorem dl_1012 : decode code 1012 = .ok (.iconst 3, 1) := by decide +kernel
theorem dl_1013 : decode code 1013 = .ok (.iadd, 1) := by decide +kernel
theorem dl_1014 : decode code 1014 = .ok (.iaload, 1) := by decide +kernel
theorem dl_1015 : decode code 1015 = .ok (.invokevirtual 119, 3) := by decide +kernel
theorem dl_1018 : decode code 1018 = .ok (.aload_n 2, 1) := by decide +kernel
theorem dl_1019 : decode code 1019 = .ok (.aload_n 0, 1) := by decide +kernel
theorem dl_1020 : decode code 1020 = .ok (.iload 4, 2) := by decide +kernel
theorem dl_1022 : decode code 1022 = .ok (.iconst 1, 1) := by decide +kernel
theorem dl_1023 : decode code 1023 = .ok (.iadd, 1) := by decide +kernel
theorem dl_1024 : decode code 1024 = .ok (.iaload, 1) := by decide +kernel
theorem dl_1025 : decode code 1025 = .ok (.aload_n 0, 1) := by decide +kernel
theorem dl_1026 : decode code 1026 = .ok (.iload 4, 2) := by decide +kernel
theorem dl_1028 : decode code 1028 = .ok (.iconst 2, 1) := by decide +kernel
theorem dl_1029 : decode code 1029 = .ok (.iadd, 1) := by decide +kernel
theorem dl_1030 : decode code 1030 = .ok (.iaload, 1) := by decide +kernel
theorem dl_1031 : decode code 1031 = .ok (.aload_n 0, 1) := by decide +kernel
theorem dl_1032 : decode code 1032 = .ok (.iload 4, 2) := by decide +kernel
theorem dl_1034 : decode code 1034 = .ok (.iconst 3, 1) := by decide +kernel
theorem dl_1035 : decode code 1035 = .ok (.iadd, 1) := by decide +kernel
theorem dl_1036 : decode code 1036 = .ok (.iaload, 1) := by decide +kernel
theorem dl_1037 : decode code 1037 = .ok (.invokevirtual 122, 3) := by decide +kernel
theorem dl_1040 : decode code 1040 = .ok (.if_icmp .eq 531, 3) := by decide +kernel
theorem dl_1043 : decode code 1043 = .ok (.iconst 0, 1) := by decide +kernel
theorem dl_1044 : decode code 1044 = .ok (.ireturn, 1) := by decide +kernel
theorem dl_1045 : decode code 1045 = .ok (.aload_n 1, 1) := by decide +kernel
theorem dl_1046 : decode code 1046 = .ok (.aload_n 0, 1) := by decide +kernel
theorem dl_1047 : decode code 1047 = .ok (.iload 4, 2) := by decide +kernel
theorem dl_1049 : decode code 1049 = .ok (.iconst 1, 1) := by decide +kernel
theorem dl_1050 : decode code 1050 = .ok (.iadd, 1) := by decide +kernel
theorem dl_1051 : decode code 1051 = .ok (.iaload, 1) := by decide +kernel
theorem dl_1052 : decode code 1052 = .ok (.aload_n 0, 1) := by decide +kernel
theorem dl_1053 : decode code 1053 = .ok (.iload 4, 2) := by decide +kernel
theorem dl_1055 : decode code 1055 = .ok (.iconst 2, 1) := by decide +kernel
theorem dl_1056 : decode code 1056 = .ok (.iadd, 1) := by decide +kernel
theorem dl_1057 : decode code 1057 = .ok (.iaload, 1) := by decide +kernel
theorem dl_1058 : decode code 1058 = .ok (.aload_n 0, 1) := by decide +kernel
theorem dl_1059 : decode code 1059 = .ok (.iload 4, 2) := by decide +kernel
theorem dl_1061 : decode code 1061 = .ok (.iconst 3, 1) := by decide +kernel
theorem dl_1062 : decode code 1062 = .ok (.iadd, 1) := by decide +kernel
theorem dl_1063 : decode code 1063 = .ok (.iaload, 1) := by decide +kernel
theorem dl_1064 : decode code 1064 = .ok (.aload_n 0, 1) := by decide +kernel
theorem dl_1065 : decode code 1065 = .ok (.iload 4, 2) := by decide +kernel
theorem dl_1067 : decode code 1067 = .ok (.iconst 4, 1) := by decide +kernel
theorem dl_1068 : decode code 1068 = .ok (.iadd, 1) := by decide +kernel
theorem dl_1069 : decode code 1069 = .ok (.iaload, 1) := by decide +kernel
theorem dl_1070 : decode code 1070 = .ok (.invokevirtual 123, 3) := by decide +kernel
theorem dl_1073 : decode code 1073 = .ok (.aload_n 2, 1) := by decide +kernel
theorem dl_1074 : decode code 1074 = .ok (.aload_n 0, 1) := by decide +kernel
theorem dl_1075 : decode code 1075 = .ok (.iload 4, 2) := by decide +kernel
theorem dl_1077 : decode code 1077 = .ok (.iconst 1, 1) := by decide +kernel
theorem dl_1078 : decode code 1078 = .ok (.iadd, 1) := by decide +kernel
theorem dl_1079 : decode code 1079 = .ok (.iaload, 1) := by decide +kernel
theorem dl_1080 : decode code 1080 = .ok (.aload_n 0, 1) := by decide +kernel
theorem dl_1081 : decode code 1081 = .ok (.iload 4, 2) := by decide +kernel
theorem dl_1083 : decode code 1083 = .ok (.iconst 2, 1) := by decide +kernel
theorem dl_1084 : decode code 1084 = .ok (.iadd, 1) := by decide +kernel
theorem dl_1085 : decode code 1085 = .ok (.iaload, 1) := by decide +kernel
theorem dl_1086 : decode code 1086 = .ok (.aload_n 0, 1) := by decide +kernel
theorem dl_1087 : decode code 1087 = .ok (.iload 4, 2) := by decide +kernel
theorem dl_1089 : decode code 1089 = .ok (.iconst 3, 1) := by decide +kernel
theorem dl_1090 : decode code 1090 = .ok (.iadd, 1) := by decide +kernel
theorem dl_1091 : decode code 1091 = .ok (.iaload, 1) := by decide +kernel
theorem dl_1092 : decode code 1092 = .ok (.aload_n 0, 1) := by decide +kernel
theorem dl_1093 : decode code 1093 = .ok (.iload 4, 2) := by decide +kernel
theorem dl_1095 : decode code 1095 = .ok (.iconst 4, 1) := by decide +kernel
theorem dl_1096 : decode code 1096 = .ok (.iadd, 1) := by decide +kernel
theorem dl_1097 : decode code 1097 = .ok (.iaload, 1) := by decide +kernel
theorem dl_1098 : decode code 1098 = .ok (.invokevirtual 127, 3) := by decide +kernel
theorem dl_1101 : decode code 1101 = .ok (.if_icmp .eq 470, 3) := by decide +kernel
theorem dl_1104 : decode code 1104 = .ok (.iconst 0, 1) := by decide +kernel
theorem dl_1105 : decode code 1105 = .ok (.ireturn, 1) := by decide +kernel
theorem dl_1106 : decode code 1106 = .ok (.aload_n 1, 1) := by decide +kernel
theorem dl_1107 : decode code 1107 = .ok (.aload_n 0, 1) := by decide +kernel
theorem dl_1108 : decode code 1108 = .ok (.iload 4, 2) := by decide +kernel
theorem dl_1110 : decode code 1110 = .ok (.iconst 1, 1) := by decide +kernel
theorem dl_1111 : decode code 1111 = .ok (.iadd, 1) := by decide +kernel
theorem dl_1112 : decode code 1112 = .ok (.iaload, 1) := by decide +kernel
theorem dl_1113 : decode code 1113 = .ok (.aload_n 0, 1) := by decide +kernel
theorem dl_1114 : decode code 1114 = .ok (.iload 4, 2) := by decide +kernel
theorem dl_1116 : decode code 1116 = .ok (.iconst 2, 1) := by decide +kernel
theorem dl_1117 : decode code 1117 = .ok (.iadd, 1) := by decide +kernel
theorem dl_1118 : decode code 1118 = .ok (.iaload, 1) := by decide +kernel
theorem dl_1119 : decode code 1119 = .ok (.invokevirtual 128, 3) := by decide +kernel
theorem dl_1122 : decode code 1122 = .ok (.aload_n 2, 1) := by decide +kernel
theorem dl_1123 : decode code 1123 = .ok (.aload_n 0, 1) := by decide +kernel
theorem dl_1124 : decode code 1124 = .ok (.iload 4, 2) := by decide +kernel
theorem dl_1126 : decode code 1126 = .ok (.iconst 1, 1) := by decide +kernel
theorem dl_1127 : decode code 1127 = .ok (.iadd, 1) := by decide +kernel
theorem dl_1128 : decode code 1128 = .ok (.iaload, 1) := by decide +kernel
theorem dl_1129 : decode code 1129 = .ok (.aload_n 0, 1) := by decide +kernel
theorem dl_1130 : decode code 1130 = .ok (.iload 4, 2) := by decide +kernel
theorem dl_1132 : decode code 1132 = .ok (.iconst 2, 1) := by decide +kernel
theorem dl_1133 : decode code 1133 = .ok (.iadd, 1) := by decide +kernel
theorem dl_1134 : decode code 1134 = .ok (.iaload, 1) := by decide +kernel
theorem dl_1135 : decode code 1135 = .ok (.invokevirtual 131, 3) := by decide +kernel
theorem dl_1138 : decode code 1138 = .ok (.if_icmp .eq 433, 3) := by decide +kernel
theorem dl_1141 : decode code 1141 = .ok (.iconst 0, 1) := by decide +kernel
theorem dl_1142 : decode code 1142 = .ok (.ireturn, 1) := by decide +kernel
theorem dl_1143 : decode code 1143 = .ok (.aload_n 1, 1) := by decide +kernel
theorem dl_1144 : decode code 1144 = .ok (.aload_n 0, 1) := by decide +kernel
theorem dl_1145 : decode code 1145 = .ok (.iload 4, 2) := by decide +kernel
theorem dl_1147 : decode code 1147 = .ok (.iconst 1, 1) := by decide +kernel
theorem dl_1148 : decode code 1148 = .ok (.iadd, 1) := by decide +kernel
theorem dl_1149 : decode code 1149 = .ok (.iaload, 1) := by decide +kernel
theorem dl_1150 : decode code 1150 = .ok (.aload_n 0, 1) := by decide +kernel
theorem dl_1151 : decode code 1151 = .ok (.iload 4, 2) := by decide +kernel
theorem dl_1153 : decode code 1153 = .ok (.iconst 2, 1) := by decide +kernel
theorem dl_1154 : decode code 1154 = .ok (.iadd, 1) := by decide +kernel
theorem dl_1155 : decode code 1155 = .ok (.iaload, 1) := by decide +kernel
theorem dl_1156 : decode code 1156 = .ok (.aload_n 0, 1) := by decide +kernel
theorem dl_1157 : decode code 1157 = .ok (.iload 4, 2) := by decide +kernel
theorem dl_1159 : decode code 1159 = .ok (.iconst 3, 1) := by decide +kernel
theorem dl_1160 : decode code 1160 = .ok (.iadd, 1) := by decide +kernel
theorem dl_1161 : decode code 1161 = .ok (.iaload, 1) := by decide +kernel
theorem dl_1162 : decode code 1162 = .ok (.aload_n 0, 1) := by decide +kernel
theorem dl_1163 : decode code 1163 = .ok (.iload 4, 2) := by decide +kernel
theorem dl_1165 : decode code 1165 = .ok (.iconst 4, 1) := by decide +kernel
theorem dl_1166 : decode code 1166 = .ok (.iadd, 1) := by decide +kernel
theorem dl_1167 : decode code 1167 = .ok (.iaload, 1) := by decide +kernel
theorem dl_1168 : decode code 1168 = .ok (.aload_n 0, 1) := by decide +kernel
theorem dl_1169 : decode code 1169 = .ok (.iload 4, 2) := by decide +kernel
theorem dl_1171 : decode code 1171 = .ok (.iconst 5, 1) := by decide +kernel
theorem dl_1172 : decode code 1172 = .ok (.iadd, 1) := by decide +kernel
theorem dl_1173 : decode code 1173 = .ok (.iaload, 1) := by decide +kernel
theorem dl_1174 : decode code 1174 = .ok (.invokevirtual 132, 3) := by decide +kernel
theorem dl_1177 : decode code 1177 = .ok (.aload_n 2, 1) := by decide +kernel
theorem dl_1178 : decode code 1178 = .ok (.aload_n 0, 1) := by decide +kernel
theorem dl_1179 : decode code 1179 = .ok (.iload 4, 2) := by decide +kernel
theorem dl_1181 : decode code 1181 = .ok (.iconst 1, 1) := by decide +kernel
theorem dl_1182 : decode code 1182 = .ok (.iadd, 1) := by decide +kernel
theorem dl_1183 : decode code 1183 = .ok (.iaload, 1) := by decide +kernel
theorem dl_1184 : decode code 1184 = .ok (.aload_n 0, 1) := by decide +kernel
theorem dl_1185 : decode code 1185 = .ok (.iload 4, 2) := by decide +kernel
theorem dl_1187 : decode code 1187 = .ok (.iconst 2, 1) := by decide +kernel
theorem dl_1188 : decode code 1188 = .ok (.iadd, 1) := by decide +kernel
theorem dl_1189 : decode code 1189 = .ok (.iaload, 1) := by decide +kernel
theorem dl_1190 : decode code 1190 = .ok (.aload_n 0, 1) := by decide +kernel
theorem dl_1191 : decode code 1191 = .ok (.iload 4, 2) := by decide +kernel
theorem dl_1193 : decode code 1193 = .ok (.iconst 3, 1) := by decide +kernel
theorem dl_1194 : decode code 1194 = .ok (.iadd, 1) := by decide +kernel
theorem dl_1195 : decode code 1195 = .ok (.iaload, 1) := by decide +kernel
theorem dl_1196 : decode code 1196 = .ok (.aload_n 0, 1) := by decide +kernel
theorem dl_1197 : decode code 1197 = .ok (.iload 4, 2) := by decide +kernel
theorem dl_1199 : decode code 1199 = .ok (.iconst 4, 1) := by decide +kernel
theorem dl_1200 : decode code 1200 = .ok (.iadd, 1) := by decide +kernel
theorem dl_1201 : decode code 1201 = .ok (.iaload, 1) := by decide +kernel
theorem dl_1202 : decode code 1202 = .ok (.aload_n 0, 1) := by decide +kernel
theorem dl_1203 : decode code 1203 = .ok (.iload 4, 2) := by decide +kernel
theorem dl_1205 : decode code 1205 = .ok (.iconst 5, 1) := by decide +kernel
theorem dl_1206 : decode code 1206 = .ok (.iadd, 1) := by decide +kernel
theorem dl_1207 : decode code 1207 = .ok (.iaload, 1) := by decide +kernel
theorem dl_1208 : decode code 1208 = .ok (.invokevirtual 135, 3) := by decide +kernel
theorem dl_1211 : decode code 1211 = .ok (.if_icmp .eq 360, 3) := by decide +kernel
theorem dl_1214 : decode code 1214 = .ok (.iconst 0, 1) := by decide +kernel
theorem dl_1215 : decode code 1215 = .ok (.ireturn, 1) := by decide +kernel
theorem dl_1216 : decode code 1216 = .ok (.aload_n 1, 1) := by decide +kernel
theorem dl_1217 : decode code 1217 = .ok (.invokevirtual 136, 3) := by decide +kernel
theorem dl_1220 : decode code 1220 = .ok (.aload_n 2, 1) := by decide +kernel
theorem dl_1221 : decode code 1221 = .ok (.invokevirtual 139, 3) := by decide +kernel
theorem dl_1224 : decode code 1224 = .ok (.if_icmp .eq 347, 3) := by decide +kernel
theorem dl_1227 : decode code 1227 = .ok (.iconst 0, 1) := by decide +kernel
theorem dl_1228 : decode code 1228 = .ok (.ireturn, 1) := by decide +kernel
theorem dl_1229 : decode code 1229 = .ok (.aload_n 1, 1) := by decide +kernel
theorem dl_1230 : decode code 1230 = .ok (.aload_n 0, 1) := by decide +kernel
theorem dl_1231 : decode code 1231 = .ok (.iload 4, 2) := by decide +kernel
theorem dl_1233 : decode code 1233 = .ok (.iconst 1, 1) := by decide +kernel
theorem dl_1234 : decode code 1234 = .ok (.iadd, 1) := by decide +kernel
theorem dl_1235 : decode code 1235 = .ok (.iaload, 1) := by decide +kernel
theorem dl_1236 : decode code 1236 = .ok (.aload_n 0, 1) := by decide +kernel
theorem dl_1237 : decode code 1237 = .ok (.iload 4, 2) := by decide +kernel
theorem dl_1239 : decode code 1239 = .ok (.iconst 2, 1) := by decide +kernel
theorem dl_1240 : decode code 1240 = .ok (.iadd, 1) := by decide +kernel
theorem dl_1241 : decode code 1241 = .ok (.iaload, 1) := by decide +kernel
theorem dl_1242 : decode code 1242 = .ok (.invokevirtual 140, 3) := by decide +kernel
theorem dl_1245 : decode code 1245 = .ok (.aload_n 2, 1) := by decide +kernel
theorem dl_1246 : decode code 1246 = .ok (.aload_n 0, 1) := by decide +kernel
theorem dl_1247 : decode code 1247 = .ok (.iload 4, 2) := by decide +kernel
theorem dl_1249 : decode code 1249 = .ok (.iconst 1, 1) := by decide +kernel
theorem dl_1250 : decode code 1250 = .ok (.iadd, 1) := by decide +kernel
theorem dl_1251 : decode code 1251 = .ok (.iaload, 1) := by decide +kernel
theorem dl_1252 : decode code 1252 = .ok (.aload_n 0, 1) := by decide +kernel
theorem dl_1253 : decode code 1253 = .ok (.iload 4, 2) := by decide +kernel
theorem dl_1255 : decode code 1255 = .ok (.iconst 2, 1) := by decide +kernel
theorem dl_1256 : decode code 1256 = .ok (.iadd, 1) := by decide +kernel
theorem dl_1257 : decode code 1257 = .ok (.iaload, 1) := by decide +kernel
theorem dl_1258 : decode code 1258 = .ok (.invokevirtual 143, 3) := by decide +kernel
theorem dl_1261 : decode code 1261 = .ok (.if_icmp .eq 310, 3) := by decide +kernel
theorem dl_1264 : decode code 1264 = .ok (.iconst 0, 1) := by decide +kernel
theorem dl_1265 : decode code 1265 = .ok (.ireturn, 1) := by decide +kernel
theorem dl_1266 : decode code 1266 = .ok (.aload_n 1, 1) := by decide +kernel
theorem dl_1267 : decode code 1267 = .ok (.aload_n 0, 1) := by decide +kernel
theorem dl_1268 : decode code 1268 = .ok (.iload 4, 2) := by decide +kernel
theorem dl_1270 : decode code 1270 = .ok (.iconst 1, 1) := by decide +kernel
theorem dl_1271 : decode code 1271 = .ok (.iadd, 1) := by decide +kernel
theorem dl_1272 : decode code 1272 = .ok (.iaload, 1) := by decide +kernel
theorem dl_1273 : decode code 1273 = .ok (.invokevirtual 144, 3) := by decide +kernel
theorem dl_1276 : decode code 1276 = .ok (.aload_n 2, 1) := by decide +kernel
theorem dl_1277 : decode code 1277 = .ok (.aload_n 0, 1) := by decide +kernel
theorem dl_1278 : decode code 1278 = .ok (.iload 4, 2) := by decide +kernel
theorem dl_1280 : decode code 1280 = .ok (.iconst 1, 1) := by decide +kernel
theorem dl_1281 : decode code 1281 = .ok (.iadd, 1) := by decide +kernel
theorem dl_1282 : decode code 1282 = .ok (.iaload, 1) := by decide +kernel
theorem dl_1283 : decode code 1283 = .ok (.invokevirtual 147, 3) := by decide +kernel
theorem dl_1286 : decode code 1286 = .ok (.if_icmp .eq 285, 3) := by decide +kernel
theorem dl_1289 : decode code 1289 = .ok (.iconst 0, 1) := by decide +kernel
theorem dl_1290 : decode code 1290 = .ok (.ireturn, 1) := by decide +kernel
theorem dl_1291 : decode code 1291 = .ok (.aload_n 1, 1) := by decide +kernel
theorem dl_1292 : decode code 1292 = .ok (.aload_n 0, 1) := by decide +kernel
theorem dl_1293 : decode code 1293 = .ok (.iload 4, 2) := by decide +kernel
theorem dl_1295 : decode code 1295 = .ok (.iconst 1, 1) := by decide +kernel
theorem dl_1296 : decode code 1296 = .ok (.iadd, 1) := by decide +kernel
theorem dl_1297 : decode code 1297 = .ok (.iaload, 1) := by decide +kernel
theorem dl_1298 : decode code 1298 = .ok (.aload_n 0, 1) := by decide +kernel
theorem dl_1299 : decode code 1299 = .ok (.iload 4, 2) := by decide +kernel
theorem dl_1301 : decode code 1301 = .ok (.iconst 2, 1) := by decide +kernel
theorem dl_1302 : decode code 1302 = .ok (.iadd, 1) := by decide +kernel
theorem dl_1303 : decode code 1303 = .ok (.iaload, 1) := by decide +kernel
theorem dl_1304 : decode code 1304 = .ok (.aload_n 0, 1) := by decide +kernel
theorem dl_1305 : decode code 1305 = .ok (.iload 4, 2) := by decide +kernel
theorem dl_1307 : decode code 1307 = .ok (.iconst 3, 1) := by decide +kernel
theorem dl_1308 : decode code 1308 = .ok (.iadd, 1) := by decide +kernel
theorem dl_1309 : decode code 1309 = .ok (.iaload, 1) := by decide +kernel
theorem dl_1310 : decode code 1310 = .ok (.aload_n 0, 1) := by decide +kernel
theorem dl_1311 : decode code 1311 = .ok (.iload 4, 2) := by decide +kernel
theorem dl_1313 : decode code 1313 = .ok (.iconst 4, 1) := by decide +kernel
theorem dl_1314 : decode code 1314 = .ok (.iadd, 1) := by decide +kernel
theorem dl_1315 : decode code 1315 = .ok (.iaload, 1) := by decide +kernel
theorem dl_1316 : decode code 1316 = .ok (.aload_n 0, 1) := by decide +kernel
theorem dl_1317 : decode code 1317 = .ok (.iload 4, 2) := by decide +kernel
theorem dl_1319 : decode code 1319 = .ok (.iconst 5, 1) := by decide +kernel
theorem dl_1320 : decode code 1320 = .ok (.iadd, 1) := by decide +kernel
theorem dl_1321 : decode code 1321 = .ok (.iaload, 1) := by decide +kernel
theorem dl_1322 : decode code 1322 = .ok (.invokevirtual 148, 3) := by decide +kernel
theorem dl_1325 : decode code 1325 = .ok (.aload_n 2, 1) := by decide +kernel
theorem dl_1326 : decode code 1326 = .ok (.aload_n 0, 1) := by decide +kernel
theorem dl_1327 : decode code 1327 = .ok (.iload 4, 2) := by decide +kernel
theorem dl_1329 : decode code 1329 = .ok (.iconst 1, 1) := by decide +kernel
theorem dl_1330 : decode code 1330 = .ok (.iadd, 1) := by decide +kernel
theorem dl_1331 : decode code 1331 = .ok (.iaload, 1) := by decide +kernel
theorem dl_1332 : decode code 1332 = .ok (.aload_n 0, 1) := by decide +kernel
theorem dl_1333 : decode code 1333 = .ok (.iload 4, 2) := by decide +kernel
theorem dl_1335 : decode code 1335 = .ok (.iconst 2, 1) := by decide +kernel
theorem dl_1336 : decode code 1336 = .ok (.iadd, 1) := by decide +kernel
theorem dl_1337 : decode code 1337 = .ok (.iaload, 1) := by decide +kernel
theorem dl_1338 : decode code 1338 = .ok (.aload_n 0, 1) := by decide +kernel
theorem dl_1339 : decode code 1339 = .ok (.iload 4, 2) := by decide +kernel
theorem dl_1341 : decode code 1341 = .ok (.iconst 3, 1) := by decide +kernel
theorem dl_1342 : decode code 1342 = .ok (.iadd, 1) := by decide +kernel
theorem dl_1343 : decode code 1343 = .ok (.iaload, 1) := by decide +kernel
theorem dl_1344 : decode code 1344 = .ok (.aload_n 0, 1) := by decide +kernel
theorem dl_1345 : decode code 1345 = .ok (.iload 4, 2) := by decide +kernel
theorem dl_1347 : decode code 1347 = .ok (.iconst 4, 1) := by decide +kernel
theorem dl_1348 : decode code 1348 = .ok (.iadd, 1) := by decide +kernel
theorem dl_1349 : decode code 1349 = .ok (.iaload, 1) := by decide +kernel
theorem dl_1350 : decode code 1350 = .ok (.aload_n 0, 1) := by decide +kernel
theorem dl_1351 : decode code 1351 = .ok (.iload 4, 2) := by decide +kernel
theorem dl_1353 : decode code 1353 = .ok (.iconst 5, 1) := by decide +kernel
theorem dl_1354 : decode code 1354 = .ok (.iadd, 1) := by decide +kernel
theorem dl_1355 : decode code 1355 = .ok (.iaload, 1) := by decide +kernel
theorem dl_1356 : decode code 1356 = .ok (.invokevirtual 151, 3) := by decide +kernel
theorem dl_1359 : decode code 1359 = .ok (.if_icmp .eq 212, 3) := by decide +kernel
theorem dl_1362 : decode code 1362 = .ok (.iconst 0, 1) := by decide +kernel
theorem dl_1363 : decode code 1363 = .ok (.ireturn, 1) := by decide +kernel
theorem dl_1364 : decode code 1364 = .ok (.aload_n 1, 1) := by decide +kernel
theorem dl_1365 : decode code 1365 = .ok (.aload_n 0, 1) := by decide +kernel
theorem dl_1366 : decode code 1366 = .ok (.iload 4, 2) := by decide +kernel
theorem dl_1368 : decode code 1368 = .ok (.iconst 1, 1) := by decide +kernel
theorem dl_1369 : decode code 1369 = .ok (.iadd, 1) := by decide +kernel
theorem dl_1370 : decode code 1370 = .ok (.iaload, 1) := by decide +kernel
theorem dl_1371 : decode code 1371 = .ok (.invokevirtual 152, 3) := by decide +kernel
theorem dl_1374 : decode code 1374 = .ok (.aload_n 2, 1) := by decide +kernel
theorem dl_1375 : decode code 1375 = .ok (.aload_n 0, 1) := by decide +kernel
theorem dl_1376 : decode code 1376 = .ok (.iload 4, 2) := by decide +kernel
theorem dl_1378 : decode code 1378 = .ok (.iconst 1, 1) := by decide +kernel
theorem dl_1379 : decode code 1379 = .ok (.iadd, 1) := by decide +kernel
theorem dl_1380 : decode code 1380 = .ok (.iaload, 1) := by decide +kernel
theorem dl_1381 : decode code 1381 = .ok (.invokevirtual 155, 3) := by decide +kernel
theorem dl_1384 : decode code 1384 = .ok (.if_icmp .eq 187, 3) := by decide +kernel
theorem dl_1387 : decode code 1387 = .ok (.iconst 0, 1) := by decide +kernel
theorem dl_1388 : decode code 1388 = .ok (.ireturn, 1) := by decide +kernel
theorem dl_1389 : decode code 1389 = .ok (.aload_n 1, 1) := by decide +kernel
theorem dl_1390 : decode code 1390 = .ok (.aload_n 0, 1) := by decide +kernel
theorem dl_1391 : decode code 1391 = .ok (.iload 4, 2) := by decide +kernel
theorem dl_1393 : decode code 1393 = .ok (.iconst 1, 1) := by decide +kernel
theorem dl_1394 : decode code 1394 = .ok (.iadd, 1) := by decide +kernel
theorem dl_1395 : decode code 1395 = .ok (.iaload, 1) := by decide +kernel
theorem dl_1396 : decode code 1396 = .ok (.invokevirtual 156, 3) := by decide +kernel
theorem dl_1399 : decode code 1399 = .ok (.aload_n 2, 1) := by decide +kernel
theorem dl_1400 : decode code 1400 = .ok (.aload_n 0, 1) := by decide +kernel
theorem dl_1401 : decode code 1401 = .ok (.iload 4, 2) := by decide +kernel
theorem dl_1403 : decode code 1403 = .ok (.iconst 1, 1) := by decide +kernel
theorem dl_1404 : decode code 1404 = .ok (.iadd, 1) := by decide +kernel
theorem dl_1405 : decode code 1405 = .ok (.iaload, 1) := by decide +kernel
theorem dl_1406 : decode code 1406 = .ok (.invokevirtual 159, 3) := by decide +kernel
theorem dl_1409 : decode code 1409 = .ok (.if_icmp .eq 162, 3) := by decide +kernel
theorem dl_1412 : decode code 1412 = .ok (.iconst 0, 1) := by decide +kernel
theorem dl_1413 : decode code 1413 = .ok (.ireturn, 1) := by decide +kernel
theorem dl_1414 : decode code 1414 = .ok (.aload_n 1, 1) := by decide +kernel
theorem dl_1415 : decode code 1415 = .ok (.aload_n 0, 1) := by decide +kernel
theorem dl_1416 : decode code 1416 = .ok (.iload 4, 2) := by decide +kernel
theorem dl_1418 : decode code 1418 = .ok (.iconst 1, 1) := by decide +kernel
theorem dl_1419 : decode code 1419 = .ok (.iadd, 1) := by decide +kernel
theorem dl_1420 : decode code 1420 = .ok (.iaload, 1) := by decide +kernel
theorem dl_1421 : decode code 1421 = .ok (.aload_n 0, 1) := by decide +kernel
theorem dl_1422 : decode code 1422 = .ok (.iload 4, 2) := by decide +kernel
theorem dl_1424 : decode code 1424 = .ok (.iconst 2, 1) := by decide +kernel
theorem dl_1425 : decode code 1425 = .ok (.iadd, 1) := by decide +kernel
theorem dl_1426 : decode code 1426 = .ok (.iaload, 1) := by decide +kernel
theorem dl_1427 : decode code 1427 = .ok (.invokevirtual 160, 3) := by decide +kernel
theorem dl_1430 : decode code 1430 = .ok (.aload_n 2, 1) := by decide +kernel
theorem dl_1431 : decode code 1431 = .ok (.aload_n 0, 1) := by decide +kernel
theorem dl_1432 : decode code 1432 = .ok (.iload 4, 2) := by decide +kernel
theorem dl_1434 : decode code 1434 = .ok (.iconst 1, 1) := by decide +kernel
theorem dl_1435 : decode code 1435 = .ok (.iadd, 1) := by decide +kernel
theorem dl_1436 : decode code 1436 = .ok (.iaload, 1) := by decide +kernel
theorem dl_1437 : decode code 1437 = .ok (.aload_n 0, 1) := by decide +kernel
theorem dl_1438 : decode code 1438 = .ok (.iload 4, 2) := by decide +kernel
theorem dl_1440 : decode code 1440 = .ok (.iconst 2, 1) := by decide +kernel
theorem dl_1441 : decode code 1441 = .ok (.iadd, 1) := by decide +kernel
theorem dl_1442 : decode code 1442 = .ok (.iaload, 1) := by decide +kernel
theorem dl_1443 : decode code 1443 = .ok (.invokevirtual 164, 3) := by decide +kernel
theorem dl_1446 : decode code 1446 = .ok (.if_icmp .eq 125, 3) := by decide +kernel
theorem dl_1449 : decode code 1449 = .ok (.iconst 0, 1) := by decide +kernel
theorem dl_1450 : decode code 1450 = .ok (.ireturn, 1) := by decide +kernel
theorem dl_1451 : decode code 1451 = .ok (.aload_n 1, 1) := by decide +kernel
theorem dl_1452 : decode code 1452 = .ok (.invokevirtual 165, 3) := by decide +kernel
theorem dl_1455 : decode code 1455 = .ok (.aload_n 2, 1) := by decide +kernel
theorem dl_1456 : decode code 1456 = .ok (.invokevirtual 169, 3) := by decide +kernel
theorem dl_1459 : decode code 1459 = .ok (.if_icmp .eq 112, 3) := by decide +kernel
theorem dl_1462 : decode code 1462 = .ok (.iconst 0, 1) := by decide +kernel
theorem dl_1463 : decode code 1463 = .ok (.ireturn, 1) := by decide +kernel
theorem dl_1464 : decode code 1464 = .ok (.aload_n 1, 1) := by decide +kernel
theorem dl_1465 : decode code 1465 = .ok (.invokevirtual 170, 3) := by decide +kernel
theorem dl_1468 : decode code 1468 = .ok (.aload_n 2, 1) := by decide +kernel
theorem dl_1469 : decode code 1469 = .ok (.invokevirtual 173, 3) := by decide +kernel
theorem dl_1472 : decode code 1472 = .ok (.if_icmp .eq 99, 3) := by decide +kernel
theorem dl_1475 : decode code 1475 = .ok (.iconst 0, 1) := by decide +kernel
theorem dl_1476 : decode code 1476 = .ok (.ireturn, 1) := by decide +kernel
theorem dl_1477 : decode code 1477 = .ok (.aload_n 1, 1) := by decide +kernel
theorem dl_1478 : decode code 1478 = .ok (.aload_n 0, 1) := by decide +kernel
theorem dl_1479 : decode code 1479 = .ok (.iload 4, 2) := by decide +kernel
theorem dl_1481 : decode code 1481 = .ok (.iconst 1, 1) := by decide +kernel
theorem dl_1482 : decode code 1482 = .ok (.iadd, 1) := by decide +kernel
theorem dl_1483 : decode code 1483 = .ok (.iaload, 1) := by decide +kernel
theorem dl_1484 : decode code 1484 = .ok (.aload_n 3, 1) := by decide +kernel
theorem dl_1485 : decode code 1485 = .ok (.invokestatic 174, 3) := by decide +kernel
theorem dl_1488 : decode code 1488 = .ok (.istore 5, 2) := by decide +kernel
theorem dl_1490 : decode code 1490 = .ok (.aload_n 2, 1) := by decide +kernel
theorem dl_1491 : decode code 1491 = .ok (.aload_n 0, 1) := by decide +kernel
theorem dl_1492 : decode code 1492 = .ok (.iload 4, 2) := by decide +kernel
theorem dl_1494 : decode code 1494 = .ok (.iconst 1, 1) := by decide +kernel
theorem dl_1495 : decode code 1495 = .ok (.iadd, 1) := by decide +kernel
theorem dl_1496 : decode code 1496 = .ok (.iaload, 1) := by decide +kernel
theorem dl_1497 : decode code 1497 = .ok (.invokevirtual 179, 3) := by decide +kernel
theorem dl_1500 : decode code 1500 = .ok (.istore 6, 2) := by decide +kernel
theorem dl_1502 : decode code 1502 = .ok (.aload_n 2, 1) := by decide +kernel
theorem dl_1503 : decode code 1503 = .ok (.invokevirtual 180, 3) := by decide +kernel
theorem dl_1506 : decode code 1506 = .ok (.iload 5, 2) := by decide +kernel
theorem dl_1508 : decode code 1508 = .ok (.if_icmp .eq 5, 3) := by decide +kernel
theorem dl_1511 : decode code 1511 = .ok (.iconst 0, 1) := by decide +kernel
theorem dl_1512 : decode code 1512 = .ok (.ireturn, 1) := by decide +kernel
theorem dl_1513 : decode code 1513 = .ok (.iload 5, 2) := by decide +kernel
theorem dl_1515 : decode code 1515 = .ok (.ifCond .ne 15, 3) := by decide +kernel
theorem dl_1518 : decode code 1518 = .ok (.aload_n 3, 1) := by decide +kernel
theorem dl_1519 : decode code 1519 = .ok (.iconst 0, 1) := by decide +kernel
theorem dl_1520 : decode code 1520 = .ok (.laload, 1) := by decide +kernel
theorem dl_1521 : decode code 1521 = .ok (.iload 6, 2) := by decide +kernel
theorem dl_1523 : decode code 1523 = .ok (.i2l, 1) := by decide +kernel
theorem dl_1524 : decode code 1524 = .ok (.lcmp, 1) := by decide +kernel
theorem dl_1525 : decode code 1525 = .ok (.ifCond .eq 5, 3) := by decide +kernel
theorem dl_1528 : decode code 1528 = .ok (.iconst 0, 1) := by decide +kernel
theorem dl_1529 : decode code 1529 = .ok (.ireturn, 1) := by decide +kernel
theorem dl_1530 : decode code 1530 = .ok (.goto 41, 3) := by decide +kernel
theorem dl_1533 : decode code 1533 = .ok (.aload_n 1, 1) := by decide +kernel
theorem dl_1534 : decode code 1534 = .ok (.aload_n 0, 1) := by decide +kernel
theorem dl_1535 : decode code 1535 = .ok (.iload 4, 2) := by decide +kernel
theorem dl_1537 : decode code 1537 = .ok (.iconst 1, 1) := by decide +kernel
theorem dl_1538 : decode code 1538 = .ok (.iadd, 1) := by decide +kernel
theorem dl_1539 : decode code 1539 = .ok (.iaload, 1) := by decide +kernel
theorem dl_1540 : decode code 1540 = .ok (.invokevirtual 183, 3) := by decide +kernel
theorem dl_1543 : decode code 1543 = .ok (.aload_n 2, 1) := by decide +kernel
theorem dl_1544 : decode code 1544 = .ok (.aload_n 0, 1) := by decide +kernel
theorem dl_1545 : decode code 1545 = .ok (.iload 4, 2) := by decide +kernel
theorem dl_1547 : decode code 1547 = .ok (.iconst 1, 1) := by decide +kernel
theorem dl_1548 : decode code 1548 = .ok (.iadd, 1) := by decide +kernel
theorem dl_1549 : decode code 1549 = .ok (.iaload, 1) := by decide +kernel
theorem dl_1550 : decode code 1550 = .ok (.invokevirtual 186, 3) := by decide +kernel
theorem dl_1553 : decode code 1553 = .ok (.if_icmp .eq 18, 3) := by decide +kernel
theorem dl_1556 : decode code 1556 = .ok (.iconst 0, 1) := by decide +kernel
theorem dl_1557 : decode code 1557 = .ok (.ireturn, 1) := by decide +kernel
theorem dl_1558 : decode code 1558 = .ok (.aload_n 1, 1) := by decide +kernel
theorem dl_1559 : decode code 1559 = .ok (.invokevirtual 187, 3) := by decide +kernel
theorem dl_1562 : decode code 1562 = .ok (.aload_n 2, 1) := by decide +kernel
theorem dl_1563 : decode code 1563 = .ok (.invokevirtual 190, 3) := by decide +kernel
theorem dl_1566 : decode code 1566 = .ok (.if_icmp .eq 5, 3) := by decide +kernel
theorem dl_1569 : decode code 1569 = .ok (.iconst 0, 1) := by decide +kernel
theorem dl_1570 : decode code 1570 = .ok (.ireturn, 1) := by decide +kernel
theorem dl_1571 : decode code 1571 = .ok (.iinc 4 6, 3) := by decide +kernel
theorem dl_1574 : decode code 1574 = .ok (.goto (-1551), 3) := by decide +kernel
theorem dl_1577 : decode code 1577 = .ok (.iconst 1, 1) := by decide +kernel
theorem dl_1578 : decode code 1578 = .ok (.ireturn, 1) := by decide +kernel
