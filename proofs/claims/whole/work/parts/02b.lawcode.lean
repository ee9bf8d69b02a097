theorem zd_L_law_224 : decode code 224 = .ok (.aload_n 1, 1) := by decide +kernel
theorem zd_L_law_225 : decode code 225 = .ok (.aload_n 0, 1) := by decide +kernel
theorem zd_L_law_226 : decode code 226 = .ok (.iload 4, 2) := by decide +kernel
theorem zd_L_law_228 : decode code 228 = .ok (.iconst 1, 1) := by decide +kernel
theorem zd_L_law_229 : decode code 229 = .ok (.iadd, 1) := by decide +kernel
theorem zd_L_law_230 : decode code 230 = .ok (.iaload, 1) := by decide +kernel
theorem zd_L_law_231 : decode code 231 = .ok (.aload_n 0, 1) := by decide +kernel
theorem zd_L_law_232 : decode code 232 = .ok (.iload 4, 2) := by decide +kernel
theorem zd_L_law_234 : decode code 234 = .ok (.iconst 2, 1) := by decide +kernel
theorem zd_L_law_235 : decode code 235 = .ok (.iadd, 1) := by decide +kernel
theorem zd_L_law_236 : decode code 236 = .ok (.iaload, 1) := by decide +kernel
theorem zd_L_law_237 : decode code 237 = .ok (.aload_n 3, 1) := by decide +kernel
theorem zd_L_law_238 : decode code 238 = .ok (.invokestatic 77, 3) := by decide +kernel
theorem zd_L_law_241 : decode code 241 = .ok (.istore 5, 2) := by decide +kernel
theorem zd_L_law_243 : decode code 243 = .ok (.aload_n 2, 1) := by decide +kernel
theorem zd_L_law_244 : decode code 244 = .ok (.aload_n 0, 1) := by decide +kernel
theorem zd_L_law_245 : decode code 245 = .ok (.iload 4, 2) := by decide +kernel
theorem zd_L_law_247 : decode code 247 = .ok (.iconst 1, 1) := by decide +kernel
theorem zd_L_law_248 : decode code 248 = .ok (.iadd, 1) := by decide +kernel
theorem zd_L_law_249 : decode code 249 = .ok (.iaload, 1) := by decide +kernel
theorem zd_L_law_250 : decode code 250 = .ok (.aload_n 0, 1) := by decide +kernel
theorem zd_L_law_251 : decode code 251 = .ok (.iload 4, 2) := by decide +kernel
theorem zd_L_law_253 : decode code 253 = .ok (.iconst 2, 1) := by decide +kernel
theorem zd_L_law_254 : decode code 254 = .ok (.iadd, 1) := by decide +kernel
theorem zd_L_law_255 : decode code 255 = .ok (.iaload, 1) := by decide +kernel
theorem zd_L_law_256 : decode code 256 = .ok (.invokevirtual 82, 3) := by decide +kernel
theorem zd_L_law_259 : decode code 259 = .ok (.istore 6, 2) := by decide +kernel
theorem zd_L_law_261 : decode code 261 = .ok (.aload_n 2, 1) := by decide +kernel
theorem zd_L_law_262 : decode code 262 = .ok (.invokevirtual 83, 3) := by decide +kernel
theorem zd_L_law_265 : decode code 265 = .ok (.iload 5, 2) := by decide +kernel
theorem zd_L_law_267 : decode code 267 = .ok (.if_icmp .eq 5, 3) := by decide +kernel
theorem zd_L_law_272 : decode code 272 = .ok (.iload 5, 2) := by decide +kernel
theorem zd_L_law_274 : decode code 274 = .ok (.ifCond .ne 15, 3) := by decide +kernel
theorem zd_L_law_289 : decode code 289 = .ok (.goto 1287, 3) := by decide +kernel
theorem zd_L_law_277 : decode code 277 = .ok (.aload_n 3, 1) := by decide +kernel
theorem zd_L_law_278 : decode code 278 = .ok (.iconst 0, 1) := by decide +kernel
theorem zd_L_law_279 : decode code 279 = .ok (.laload, 1) := by decide +kernel
theorem zd_L_law_280 : decode code 280 = .ok (.iload 6, 2) := by decide +kernel
theorem zd_L_law_282 : decode code 282 = .ok (.i2l, 1) := by decide +kernel
theorem zd_L_law_283 : decode code 283 = .ok (.lcmp, 1) := by decide +kernel
theorem zd_L_law_284 : decode code 284 = .ok (.ifCond .eq 5, 3) := by decide +kernel
theorem zd_L_law_292 : decode code 292 = .ok (.aload_n 1, 1) := by decide +kernel
theorem zd_L_law_293 : decode code 293 = .ok (.invokevirtual 86, 3) := by decide +kernel
theorem zd_L_law_296 : decode code 296 = .ok (.aload_n 2, 1) := by decide +kernel
theorem zd_L_law_297 : decode code 297 = .ok (.invokevirtual 89, 3) := by decide +kernel
theorem zd_L_law_300 : decode code 300 = .ok (.if_icmp .eq 1276, 3) := by decide +kernel
theorem zd_L_law_305 : decode code 305 = .ok (.aload_n 1, 1) := by decide +kernel
theorem zd_L_law_306 : decode code 306 = .ok (.aload_n 0, 1) := by decide +kernel
theorem zd_L_law_307 : decode code 307 = .ok (.iload 4, 2) := by decide +kernel
theorem zd_L_law_309 : decode code 309 = .ok (.iconst 1, 1) := by decide +kernel
theorem zd_L_law_310 : decode code 310 = .ok (.iadd, 1) := by decide +kernel
theorem zd_L_law_311 : decode code 311 = .ok (.iaload, 1) := by decide +kernel
theorem zd_L_law_312 : decode code 312 = .ok (.aload_n 3, 1) := by decide +kernel
theorem zd_L_law_313 : decode code 313 = .ok (.invokestatic 90, 3) := by decide +kernel
theorem zd_L_law_316 : decode code 316 = .ok (.istore 5, 2) := by decide +kernel
theorem zd_L_law_318 : decode code 318 = .ok (.aload_n 2, 1) := by decide +kernel
theorem zd_L_law_319 : decode code 319 = .ok (.aload_n 0, 1) := by decide +kernel
theorem zd_L_law_320 : decode code 320 = .ok (.iload 4, 2) := by decide +kernel
theorem zd_L_law_322 : decode code 322 = .ok (.iconst 1, 1) := by decide +kernel
theorem zd_L_law_323 : decode code 323 = .ok (.iadd, 1) := by decide +kernel
theorem zd_L_law_324 : decode code 324 = .ok (.iaload, 1) := by decide +kernel
theorem zd_L_law_325 : decode code 325 = .ok (.invokevirtual 93, 3) := by decide +kernel
theorem zd_L_law_328 : decode code 328 = .ok (.istore 6, 2) := by decide +kernel
theorem zd_L_law_330 : decode code 330 = .ok (.aload_n 2, 1) := by decide +kernel
theorem zd_L_law_331 : decode code 331 = .ok (.invokevirtual 83, 3) := by decide +kernel
theorem zd_L_law_334 : decode code 334 = .ok (.iload 5, 2) := by decide +kernel
theorem zd_L_law_336 : decode code 336 = .ok (.if_icmp .eq 5, 3) := by decide +kernel
theorem zd_L_law_341 : decode code 341 = .ok (.iload 5, 2) := by decide +kernel
theorem zd_L_law_343 : decode code 343 = .ok (.ifCond .ne 15, 3) := by decide +kernel
theorem zd_L_law_358 : decode code 358 = .ok (.goto 1218, 3) := by decide +kernel
theorem zd_L_law_346 : decode code 346 = .ok (.aload_n 3, 1) := by decide +kernel
theorem zd_L_law_347 : decode code 347 = .ok (.iconst 0, 1) := by decide +kernel
theorem zd_L_law_348 : decode code 348 = .ok (.laload, 1) := by decide +kernel
theorem zd_L_law_349 : decode code 349 = .ok (.iload 6, 2) := by decide +kernel
theorem zd_L_law_351 : decode code 351 = .ok (.i2l, 1) := by decide +kernel
theorem zd_L_law_352 : decode code 352 = .ok (.lcmp, 1) := by decide +kernel
theorem zd_L_law_353 : decode code 353 = .ok (.ifCond .eq 5, 3) := by decide +kernel
theorem zd_L_law_361 : decode code 361 = .ok (.aload_n 1, 1) := by decide +kernel
theorem zd_L_law_362 : decode code 362 = .ok (.aload_n 3, 1) := by decide +kernel
theorem zd_L_law_363 : decode code 363 = .ok (.invokestatic 94, 3) := by decide +kernel
theorem zd_L_law_366 : decode code 366 = .ok (.istore 5, 2) := by decide +kernel
theorem zd_L_law_368 : decode code 368 = .ok (.aload_n 2, 1) := by decide +kernel
theorem zd_L_law_369 : decode code 369 = .ok (.invokevirtual 97, 3) := by decide +kernel
theorem zd_L_law_372 : decode code 372 = .ok (.istore 6, 2) := by decide +kernel
theorem zd_L_law_374 : decode code 374 = .ok (.aload_n 2, 1) := by decide +kernel
theorem zd_L_law_375 : decode code 375 = .ok (.invokevirtual 83, 3) := by decide +kernel
theorem zd_L_law_378 : decode code 378 = .ok (.iload 5, 2) := by decide +kernel
theorem zd_L_law_380 : decode code 380 = .ok (.if_icmp .eq 5, 3) := by decide +kernel
theorem zd_L_law_385 : decode code 385 = .ok (.iload 5, 2) := by decide +kernel
theorem zd_L_law_387 : decode code 387 = .ok (.ifCond .ne 15, 3) := by decide +kernel
theorem zd_L_law_402 : decode code 402 = .ok (.goto 1174, 3) := by decide +kernel
theorem zd_L_law_390 : decode code 390 = .ok (.aload_n 3, 1) := by decide +kernel
theorem zd_L_law_391 : decode code 391 = .ok (.iconst 0, 1) := by decide +kernel
theorem zd_L_law_392 : decode code 392 = .ok (.laload, 1) := by decide +kernel
theorem zd_L_law_393 : decode code 393 = .ok (.iload 6, 2) := by decide +kernel
theorem zd_L_law_395 : decode code 395 = .ok (.i2l, 1) := by decide +kernel
theorem zd_L_law_396 : decode code 396 = .ok (.lcmp, 1) := by decide +kernel
theorem zd_L_law_397 : decode code 397 = .ok (.ifCond .eq 5, 3) := by decide +kernel
theorem zd_L_law_405 : decode code 405 = .ok (.aload_n 1, 1) := by decide +kernel
theorem zd_L_law_406 : decode code 406 = .ok (.aload_n 0, 1) := by decide +kernel
theorem zd_L_law_407 : decode code 407 = .ok (.iload 4, 2) := by decide +kernel
theorem zd_L_law_409 : decode code 409 = .ok (.iconst 1, 1) := by decide +kernel
theorem zd_L_law_410 : decode code 410 = .ok (.iadd, 1) := by decide +kernel
theorem zd_L_law_411 : decode code 411 = .ok (.iaload, 1) := by decide +kernel
theorem zd_L_law_412 : decode code 412 = .ok (.aload_n 3, 1) := by decide +kernel
theorem zd_L_law_413 : decode code 413 = .ok (.invokestatic 98, 3) := by decide +kernel
theorem zd_L_law_416 : decode code 416 = .ok (.istore 5, 2) := by decide +kernel
theorem zd_L_law_418 : decode code 418 = .ok (.aload_n 2, 1) := by decide +kernel
theorem zd_L_law_419 : decode code 419 = .ok (.aload_n 0, 1) := by decide +kernel
theorem zd_L_law_420 : decode code 420 = .ok (.iload 4, 2) := by decide +kernel
theorem zd_L_law_422 : decode code 422 = .ok (.iconst 1, 1) := by decide +kernel
theorem zd_L_law_423 : decode code 423 = .ok (.iadd, 1) := by decide +kernel
theorem zd_L_law_424 : decode code 424 = .ok (.iaload, 1) := by decide +kernel
theorem zd_L_law_425 : decode code 425 = .ok (.invokevirtual 100, 3) := by decide +kernel
theorem zd_L_law_428 : decode code 428 = .ok (.istore 6, 2) := by decide +kernel
theorem zd_L_law_430 : decode code 430 = .ok (.aload_n 2, 1) := by decide +kernel
theorem zd_L_law_431 : decode code 431 = .ok (.invokevirtual 83, 3) := by decide +kernel
theorem zd_L_law_434 : decode code 434 = .ok (.iload 5, 2) := by decide +kernel
theorem zd_L_law_436 : decode code 436 = .ok (.if_icmp .eq 5, 3) := by decide +kernel
theorem zd_L_law_441 : decode code 441 = .ok (.iload 5, 2) := by decide +kernel
theorem zd_L_law_443 : decode code 443 = .ok (.ifCond .ne 15, 3) := by decide +kernel
theorem zd_L_law_458 : decode code 458 = .ok (.goto 1118, 3) := by decide +kernel
theorem zd_L_law_446 : decode code 446 = .ok (.aload_n 3, 1) := by decide +kernel
theorem zd_L_law_447 : decode code 447 = .ok (.iconst 0, 1) := by decide +kernel
theorem zd_L_law_448 : decode code 448 = .ok (.laload, 1) := by decide +kernel
theorem zd_L_law_449 : decode code 449 = .ok (.iload 6, 2) := by decide +kernel
theorem zd_L_law_451 : decode code 451 = .ok (.i2l, 1) := by decide +kernel
theorem zd_L_law_452 : decode code 452 = .ok (.lcmp, 1) := by decide +kernel
theorem zd_L_law_453 : decode code 453 = .ok (.ifCond .eq 5, 3) := by decide +kernel
theorem zd_L_law_461 : decode code 461 = .ok (.aload_n 1, 1) := by decide +kernel
theorem zd_L_law_462 : decode code 462 = .ok (.aload_n 0, 1) := by decide +kernel
theorem zd_L_law_463 : decode code 463 = .ok (.iload 4, 2) := by decide +kernel
theorem zd_L_law_465 : decode code 465 = .ok (.iconst 1, 1) := by decide +kernel
theorem zd_L_law_466 : decode code 466 = .ok (.iadd, 1) := by decide +kernel
theorem zd_L_law_467 : decode code 467 = .ok (.iaload, 1) := by decide +kernel
theorem zd_L_law_468 : decode code 468 = .ok (.aload_n 3, 1) := by decide +kernel
theorem zd_L_law_469 : decode code 469 = .ok (.invokestatic 101, 3) := by decide +kernel
theorem zd_L_law_472 : decode code 472 = .ok (.istore 5, 2) := by decide +kernel
theorem zd_L_law_474 : decode code 474 = .ok (.aload_n 2, 1) := by decide +kernel
theorem zd_L_law_475 : decode code 475 = .ok (.aload_n 0, 1) := by decide +kernel
theorem zd_L_law_476 : decode code 476 = .ok (.iload 4, 2) := by decide +kernel
theorem zd_L_law_478 : decode code 478 = .ok (.iconst 1, 1) := by decide +kernel
theorem zd_L_law_479 : decode code 479 = .ok (.iadd, 1) := by decide +kernel
theorem zd_L_law_480 : decode code 480 = .ok (.iaload, 1) := by decide +kernel
theorem zd_L_law_481 : decode code 481 = .ok (.invokevirtual 103, 3) := by decide +kernel
theorem zd_L_law_484 : decode code 484 = .ok (.istore 6, 2) := by decide +kernel
theorem zd_L_law_486 : decode code 486 = .ok (.aload_n 2, 1) := by decide +kernel
theorem zd_L_law_487 : decode code 487 = .ok (.invokevirtual 83, 3) := by decide +kernel
theorem zd_L_law_490 : decode code 490 = .ok (.iload 5, 2) := by decide +kernel
theorem zd_L_law_492 : decode code 492 = .ok (.if_icmp .eq 5, 3) := by decide +kernel
theorem zd_L_law_497 : decode code 497 = .ok (.iload 5, 2) := by decide +kernel
theorem zd_L_law_499 : decode code 499 = .ok (.ifCond .ne 15, 3) := by decide +kernel
theorem zd_L_law_514 : decode code 514 = .ok (.goto 1062, 3) := by decide +kernel
theorem zd_L_law_502 : decode code 502 = .ok (.aload_n 3, 1) := by decide +kernel
theorem zd_L_law_503 : decode code 503 = .ok (.iconst 0, 1) := by decide +kernel
theorem zd_L_law_504 : decode code 504 = .ok (.laload, 1) := by decide +kernel
theorem zd_L_law_505 : decode code 505 = .ok (.iload 6, 2) := by decide +kernel
theorem zd_L_law_507 : decode code 507 = .ok (.i2l, 1) := by decide +kernel
theorem zd_L_law_508 : decode code 508 = .ok (.lcmp, 1) := by decide +kernel
theorem zd_L_law_509 : decode code 509 = .ok (.ifCond .eq 5, 3) := by decide +kernel
theorem zd_L_law_517 : decode code 517 = .ok (.aload_n 1, 1) := by decide +kernel
theorem zd_L_law_518 : decode code 518 = .ok (.aload_n 0, 1) := by decide +kernel
theorem zd_L_law_519 : decode code 519 = .ok (.iload 4, 2) := by decide +kernel
theorem zd_L_law_521 : decode code 521 = .ok (.iconst 1, 1) := by decide +kernel
theorem zd_L_law_522 : decode code 522 = .ok (.iadd, 1) := by decide +kernel
theorem zd_L_law_523 : decode code 523 = .ok (.iaload, 1) := by decide +kernel
theorem zd_L_law_524 : decode code 524 = .ok (.aload_n 3, 1) := by decide +kernel
theorem zd_L_law_525 : decode code 525 = .ok (.invokestatic 104, 3) := by decide +kernel
theorem zd_L_law_528 : decode code 528 = .ok (.istore 5, 2) := by decide +kernel
theorem zd_L_law_530 : decode code 530 = .ok (.aload_n 2, 1) := by decide +kernel
theorem zd_L_law_531 : decode code 531 = .ok (.aload_n 0, 1) := by decide +kernel
theorem zd_L_law_532 : decode code 532 = .ok (.iload 4, 2) := by decide +kernel
theorem zd_L_law_534 : decode code 534 = .ok (.iconst 1, 1) := by decide +kernel
theorem zd_L_law_535 : decode code 535 = .ok (.iadd, 1) := by decide +kernel
theorem zd_L_law_536 : decode code 536 = .ok (.iaload, 1) := by decide +kernel
theorem zd_L_law_537 : decode code 537 = .ok (.invokevirtual 106, 3) := by decide +kernel
theorem zd_L_law_540 : decode code 540 = .ok (.istore 6, 2) := by decide +kernel
theorem zd_L_law_542 : decode code 542 = .ok (.aload_n 2, 1) := by decide +kernel
theorem zd_L_law_543 : decode code 543 = .ok (.invokevirtual 83, 3) := by decide +kernel
theorem zd_L_law_546 : decode code 546 = .ok (.iload 5, 2) := by decide +kernel
theorem zd_L_law_548 : decode code 548 = .ok (.if_icmp .eq 5, 3) := by decide +kernel
theorem zd_L_law_553 : decode code 553 = .ok (.iload 5, 2) := by decide +kernel
theorem zd_L_law_555 : decode code 555 = .ok (.ifCond .ne 15, 3) := by decide +kernel
theorem zd_L_law_570 : decode code 570 = .ok (.goto 1006, 3) := by decide +kernel
theorem zd_L_law_558 : decode code 558 = .ok (.aload_n 3, 1) := by decide +kernel
theorem zd_L_law_559 : decode code 559 = .ok (.iconst 0, 1) := by decide +kernel
theorem zd_L_law_560 : decode code 560 = .ok (.laload, 1) := by decide +kernel
theorem zd_L_law_561 : decode code 561 = .ok (.iload 6, 2) := by decide +kernel
theorem zd_L_law_563 : decode code 563 = .ok (.i2l, 1) := by decide +kernel
theorem zd_L_law_564 : decode code 564 = .ok (.lcmp, 1) := by decide +kernel
theorem zd_L_law_565 : decode code 565 = .ok (.ifCond .eq 5, 3) := by decide +kernel
theorem zd_L_law_573 : decode code 573 = .ok (.aload_n 1, 1) := by decide +kernel
theorem zd_L_law_574 : decode code 574 = .ok (.aload_n 0, 1) := by decide +kernel
theorem zd_L_law_575 : decode code 575 = .ok (.iload 4, 2) := by decide +kernel
theorem zd_L_law_577 : decode code 577 = .ok (.iconst 1, 1) := by decide +kernel
theorem zd_L_law_578 : decode code 578 = .ok (.iadd, 1) := by decide +kernel
theorem zd_L_law_579 : decode code 579 = .ok (.iaload, 1) := by decide +kernel
theorem zd_L_law_580 : decode code 580 = .ok (.aload_n 3, 1) := by decide +kernel
theorem zd_L_law_581 : decode code 581 = .ok (.invokestatic 107, 3) := by decide +kernel
theorem zd_L_law_584 : decode code 584 = .ok (.istore 5, 2) := by decide +kernel
theorem zd_L_law_586 : decode code 586 = .ok (.aload_n 2, 1) := by decide +kernel
theorem zd_L_law_587 : decode code 587 = .ok (.aload_n 0, 1) := by decide +kernel
theorem zd_L_law_588 : decode code 588 = .ok (.iload 4, 2) := by decide +kernel
theorem zd_L_law_590 : decode code 590 = .ok (.iconst 1, 1) := by decide +kernel
theorem zd_L_law_591 : decode code 591 = .ok (.iadd, 1) := by decide +kernel
theorem zd_L_law_592 : decode code 592 = .ok (.iaload, 1) := by decide +kernel
theorem zd_L_law_593 : decode code 593 = .ok (.invokevirtual 109, 3) := by decide +kernel
theorem zd_L_law_596 : decode code 596 = .ok (.istore 6, 2) := by decide +kernel
theorem zd_L_law_598 : decode code 598 = .ok (.aload_n 2, 1) := by decide +kernel
theorem zd_L_law_599 : decode code 599 = .ok (.invokevirtual 83, 3) := by decide +kernel
theorem zd_L_law_602 : decode code 602 = .ok (.iload 5, 2) := by decide +kernel
theorem zd_L_law_604 : decode code 604 = .ok (.if_icmp .eq 5, 3) := by decide +kernel
theorem zd_L_law_609 : decode code 609 = .ok (.iload 5, 2) := by decide +kernel
theorem zd_L_law_611 : decode code 611 = .ok (.ifCond .ne 15, 3) := by decide +kernel
theorem zd_L_law_626 : decode code 626 = .ok (.goto 950, 3) := by decide +kernel
theorem zd_L_law_614 : decode code 614 = .ok (.aload_n 3, 1) := by decide +kernel
theorem zd_L_law_615 : decode code 615 = .ok (.iconst 0, 1) := by decide +kernel
theorem zd_L_law_616 : decode code 616 = .ok (.laload, 1) := by decide +kernel
theorem zd_L_law_617 : decode code 617 = .ok (.iload 6, 2) := by decide +kernel
theorem zd_L_law_619 : decode code 619 = .ok (.i2l, 1) := by decide +kernel
theorem zd_L_law_620 : decode code 620 = .ok (.lcmp, 1) := by decide +kernel
theorem zd_L_law_621 : decode code 621 = .ok (.ifCond .eq 5, 3) := by decide +kernel
theorem zd_L_law_629 : decode code 629 = .ok (.aload_n 1, 1) := by decide +kernel
theorem zd_L_law_630 : decode code 630 = .ok (.aload_n 0, 1) := by decide +kernel
theorem zd_L_law_631 : decode code 631 = .ok (.iload 4, 2) := by decide +kernel
theorem zd_L_law_633 : decode code 633 = .ok (.iconst 1, 1) := by decide +kernel
theorem zd_L_law_634 : decode code 634 = .ok (.iadd, 1) := by decide +kernel
theorem zd_L_law_635 : decode code 635 = .ok (.iaload, 1) := by decide +kernel
theorem zd_L_law_636 : decode code 636 = .ok (.aload_n 3, 1) := by decide +kernel
theorem zd_L_law_637 : decode code 637 = .ok (.invokestatic 110, 3) := by decide +kernel
theorem zd_L_law_640 : decode code 640 = .ok (.istore 5, 2) := by decide +kernel
theorem zd_L_law_642 : decode code 642 = .ok (.aload_n 2, 1) := by decide +kernel
theorem zd_L_law_643 : decode code 643 = .ok (.aload_n 0, 1) := by decide +kernel
theorem zd_L_law_644 : decode code 644 = .ok (.iload 4, 2) := by decide +kernel
theorem zd_L_law_646 : decode code 646 = .ok (.iconst 1, 1) := by decide +kernel
theorem zd_L_law_647 : decode code 647 = .ok (.iadd, 1) := by decide +kernel
theorem zd_L_law_648 : decode code 648 = .ok (.iaload, 1) := by decide +kernel
theorem zd_L_law_649 : decode code 649 = .ok (.invokevirtual 112, 3) := by decide +kernel
theorem zd_L_law_652 : decode code 652 = .ok (.istore 6, 2) := by decide +kernel
theorem zd_L_law_654 : decode code 654 = .ok (.aload_n 2, 1) := by decide +kernel
theorem zd_L_law_655 : decode code 655 = .ok (.invokevirtual 83, 3) := by decide +kernel
theorem zd_L_law_658 : decode code 658 = .ok (.iload 5, 2) := by decide +kernel
theorem zd_L_law_660 : decode code 660 = .ok (.if_icmp .eq 5, 3) := by decide +kernel
theorem zd_L_law_665 : decode code 665 = .ok (.iload 5, 2) := by decide +kernel
theorem zd_L_law_667 : decode code 667 = .ok (.ifCond .ne 15, 3) := by decide +kernel
theorem zd_L_law_682 : decode code 682 = .ok (.goto 894, 3) := by decide +kernel
theorem zd_L_law_670 : decode code 670 = .ok (.aload_n 3, 1) := by decide +kernel
theorem zd_L_law_671 : decode code 671 = .ok (.iconst 0, 1) := by decide +kernel
theorem zd_L_law_672 : decode code 672 = .ok (.laload, 1) := by decide +kernel
theorem zd_L_law_673 : decode code 673 = .ok (.iload 6, 2) := by decide +kernel
theorem zd_L_law_675 : decode code 675 = .ok (.i2l, 1) := by decide +kernel
theorem zd_L_law_676 : decode code 676 = .ok (.lcmp, 1) := by decide +kernel
theorem zd_L_law_677 : decode code 677 = .ok (.ifCond .eq 5, 3) := by decide +kernel
theorem zd_L_law_685 : decode code 685 = .ok (.aload_n 1, 1) := by decide +kernel
theorem zd_L_law_686 : decode code 686 = .ok (.aload_n 0, 1) := by decide +kernel
theorem zd_L_law_687 : decode code 687 = .ok (.iload 4, 2) := by decide +kernel
theorem zd_L_law_689 : decode code 689 = .ok (.iconst 1, 1) := by decide +kernel
theorem zd_L_law_690 : decode code 690 = .ok (.iadd, 1) := by decide +kernel
theorem zd_L_law_691 : decode code 691 = .ok (.iaload, 1) := by decide +kernel
theorem zd_L_law_692 : decode code 692 = .ok (.aload_n 3, 1) := by decide +kernel
theorem zd_L_law_693 : decode code 693 = .ok (.invokestatic 113, 3) := by decide +kernel
theorem zd_L_law_696 : decode code 696 = .ok (.istore 5, 2) := by decide +kernel
theorem zd_L_law_698 : decode code 698 = .ok (.aload_n 2, 1) := by decide +kernel
theorem zd_L_law_699 : decode code 699 = .ok (.aload_n 0, 1) := by decide +kernel
theorem zd_L_law_700 : decode code 700 = .ok (.iload 4, 2) := by decide +kernel
theorem zd_L_law_702 : decode code 702 = .ok (.iconst 1, 1) := by decide +kernel
theorem zd_L_law_703 : decode code 703 = .ok (.iadd, 1) := by decide +kernel
theorem zd_L_law_704 : decode code 704 = .ok (.iaload, 1) := by decide +kernel
theorem zd_L_law_705 : decode code 705 = .ok (.invokevirtual 115, 3) := by decide +kernel
theorem zd_L_law_708 : decode code 708 = .ok (.istore 6, 2) := by decide +kernel
theorem zd_L_law_710 : decode code 710 = .ok (.aload_n 2, 1) := by decide +kernel
theorem zd_L_law_711 : decode code 711 = .ok (.invokevirtual 83, 3) := by decide +kernel
theorem zd_L_law_714 : decode code 714 = .ok (.iload 5, 2) := by decide +kernel
theorem zd_L_law_716 : decode code 716 = .ok (.if_icmp .eq 5, 3) := by decide +kernel
theorem zd_L_law_721 : decode code 721 = .ok (.iload 5, 2) := by decide +kernel
theorem zd_L_law_723 : decode code 723 = .ok (.ifCond .ne 15, 3) := by decide +kernel
theorem zd_L_law_738 : decode code 738 = .ok (.goto 838, 3) := by decide +kernel
theorem zd_L_law_726 : decode code 726 = .ok (.aload_n 3, 1) := by decide +kernel
theorem zd_L_law_727 : decode code 727 = .ok (.iconst 0, 1) := by decide +kernel
theorem zd_L_law_728 : decode code 728 = .ok (.laload, 1) := by decide +kernel
theorem zd_L_law_729 : decode code 729 = .ok (.iload 6, 2) := by decide +kernel
theorem zd_L_law_731 : decode code 731 = .ok (.i2l, 1) := by decide +kernel
theorem zd_L_law_732 : decode code 732 = .ok (.lcmp, 1) := by decide +kernel
theorem zd_L_law_733 : decode code 733 = .ok (.ifCond .eq 5, 3) := by decide +kernel
theorem zd_L_law_741 : decode code 741 = .ok (.aload_n 1, 1) := by decide +kernel
theorem zd_L_law_742 : decode code 742 = .ok (.invokevirtual 116, 3) := by decide +kernel
theorem zd_L_law_745 : decode code 745 = .ok (.aload_n 2, 1) := by decide +kernel
theorem zd_L_law_746 : decode code 746 = .ok (.invokevirtual 119, 3) := by decide +kernel
theorem zd_L_law_749 : decode code 749 = .ok (.if_icmp .eq 827, 3) := by decide +kernel
theorem zd_L_law_754 : decode code 754 = .ok (.aload_n 1, 1) := by decide +kernel
theorem zd_L_law_755 : decode code 755 = .ok (.aload_n 0, 1) := by decide +kernel
theorem zd_L_law_756 : decode code 756 = .ok (.iload 4, 2) := by decide +kernel
theorem zd_L_law_758 : decode code 758 = .ok (.iconst 1, 1) := by decide +kernel
theorem zd_L_law_759 : decode code 759 = .ok (.iadd, 1) := by decide +kernel
theorem zd_L_law_760 : decode code 760 = .ok (.iaload, 1) := by decide +kernel
theorem zd_L_law_761 : decode code 761 = .ok (.aload_n 3, 1) := by decide +kernel
theorem zd_L_law_762 : decode code 762 = .ok (.invokestatic 120, 3) := by decide +kernel
theorem zd_L_law_765 : decode code 765 = .ok (.istore 5, 2) := by decide +kernel
theorem zd_L_law_767 : decode code 767 = .ok (.aload_n 2, 1) := by decide +kernel
theorem zd_L_law_768 : decode code 768 = .ok (.aload_n 0, 1) := by decide +kernel
theorem zd_L_law_769 : decode code 769 = .ok (.iload 4, 2) := by decide +kernel
theorem zd_L_law_771 : decode code 771 = .ok (.iconst 1, 1) := by decide +kernel
theorem zd_L_law_772 : decode code 772 = .ok (.iadd, 1) := by decide +kernel
theorem zd_L_law_773 : decode code 773 = .ok (.iaload, 1) := by decide +kernel
theorem zd_L_law_774 : decode code 774 = .ok (.invokevirtual 122, 3) := by decide +kernel
theorem zd_L_law_777 : decode code 777 = .ok (.istore 6, 2) := by decide +kernel
theorem zd_L_law_779 : decode code 779 = .ok (.aload_n 2, 1) := by decide +kernel
theorem zd_L_law_780 : decode code 780 = .ok (.invokevirtual 83, 3) := by decide +kernel
theorem zd_L_law_783 : decode code 783 = .ok (.iload 5, 2) := by decide +kernel
theorem zd_L_law_785 : decode code 785 = .ok (.if_icmp .eq 5, 3) := by decide +kernel
theorem zd_L_law_790 : decode code 790 = .ok (.iload 5, 2) := by decide +kernel
theorem zd_L_law_792 : decode code 792 = .ok (.ifCond .ne 15, 3) := by decide +kernel
theorem zd_L_law_807 : decode code 807 = .ok (.goto 769, 3) := by decide +kernel
theorem zd_L_law_795 : decode code 795 = .ok (.aload_n 3, 1) := by decide +kernel
theorem zd_L_law_796 : decode code 796 = .ok (.iconst 0, 1) := by decide +kernel
theorem zd_L_law_797 : decode code 797 = .ok (.laload, 1) := by decide +kernel
theorem zd_L_law_798 : decode code 798 = .ok (.iload 6, 2) := by decide +kernel
theorem zd_L_law_800 : decode code 800 = .ok (.i2l, 1) := by decide +kernel
theorem zd_L_law_801 : decode code 801 = .ok (.lcmp, 1) := by decide +kernel
theorem zd_L_law_802 : decode code 802 = .ok (.ifCond .eq 5, 3) := by decide +kernel
theorem zd_L_law_810 : decode code 810 = .ok (.aload_n 1, 1) := by decide +kernel
theorem zd_L_law_811 : decode code 811 = .ok (.aload_n 0, 1) := by decide +kernel
theorem zd_L_law_812 : decode code 812 = .ok (.iload 4, 2) := by decide +kernel
theorem zd_L_law_814 : decode code 814 = .ok (.iconst 1, 1) := by decide +kernel
theorem zd_L_law_815 : decode code 815 = .ok (.iadd, 1) := by decide +kernel
theorem zd_L_law_816 : decode code 816 = .ok (.iaload, 1) := by decide +kernel
theorem zd_L_law_817 : decode code 817 = .ok (.aload_n 3, 1) := by decide +kernel
theorem zd_L_law_818 : decode code 818 = .ok (.invokestatic 123, 3) := by decide +kernel
theorem zd_L_law_821 : decode code 821 = .ok (.istore 5, 2) := by decide +kernel
theorem zd_L_law_823 : decode code 823 = .ok (.aload_n 2, 1) := by decide +kernel
theorem zd_L_law_824 : decode code 824 = .ok (.aload_n 0, 1) := by decide +kernel
theorem zd_L_law_825 : decode code 825 = .ok (.iload 4, 2) := by decide +kernel
theorem zd_L_law_827 : decode code 827 = .ok (.iconst 1, 1) := by decide +kernel
theorem zd_L_law_828 : decode code 828 = .ok (.iadd, 1) := by decide +kernel
theorem zd_L_law_829 : decode code 829 = .ok (.iaload, 1) := by decide +kernel
theorem zd_L_law_830 : decode code 830 = .ok (.invokevirtual 125, 3) := by decide +kernel
theorem zd_L_law_833 : decode code 833 = .ok (.istore 6, 2) := by decide +kernel
theorem zd_L_law_835 : decode code 835 = .ok (.aload_n 2, 1) := by decide +kernel
theorem zd_L_law_836 : decode code 836 = .ok (.invokevirtual 83, 3) := by decide +kernel
theorem zd_L_law_839 : decode code 839 = .ok (.iload 5, 2) := by decide +kernel
theorem zd_L_law_841 : decode code 841 = .ok (.if_icmp .eq 5, 3) := by decide +kernel
theorem zd_L_law_846 : decode code 846 = .ok (.iload 5, 2) := by decide +kernel
theorem zd_L_law_848 : decode code 848 = .ok (.ifCond .ne 15, 3) := by decide +kernel
theorem zd_L_law_863 : decode code 863 = .ok (.goto 713, 3) := by decide +kernel
theorem zd_L_law_851 : decode code 851 = .ok (.aload_n 3, 1) := by decide +kernel
theorem zd_L_law_852 : decode code 852 = .ok (.iconst 0, 1) := by decide +kernel
theorem zd_L_law_853 : decode code 853 = .ok (.laload, 1) := by decide +kernel
theorem zd_L_law_854 : decode code 854 = .ok (.iload 6, 2) := by decide +kernel
theorem zd_L_law_856 : decode code 856 = .ok (.i2l, 1) := by decide +kernel
theorem zd_L_law_857 : decode code 857 = .ok (.lcmp, 1) := by decide +kernel
theorem zd_L_law_858 : decode code 858 = .ok (.ifCond .eq 5, 3) := by decide +kernel
theorem zd_L_law_866 : decode code 866 = .ok (.aload_n 1, 1) := by decide +kernel
theorem zd_L_law_867 : decode code 867 = .ok (.invokevirtual 126, 3) := by decide +kernel
theorem zd_L_law_870 : decode code 870 = .ok (.aload_n 2, 1) := by decide +kernel
theorem zd_L_law_871 : decode code 871 = .ok (.invokevirtual 129, 3) := by decide +kernel
theorem zd_L_law_874 : decode code 874 = .ok (.if_icmp .eq 702, 3) := by decide +kernel
theorem zd_L_law_879 : decode code 879 = .ok (.aload_n 1, 1) := by decide +kernel
theorem zd_L_law_880 : decode code 880 = .ok (.aload_n 0, 1) := by decide +kernel
theorem zd_L_law_881 : decode code 881 = .ok (.iload 4, 2) := by decide +kernel
theorem zd_L_law_883 : decode code 883 = .ok (.iconst 1, 1) := by decide +kernel
theorem zd_L_law_884 : decode code 884 = .ok (.iadd, 1) := by decide +kernel
theorem zd_L_law_885 : decode code 885 = .ok (.iaload, 1) := by decide +kernel
theorem zd_L_law_886 : decode code 886 = .ok (.aload_n 3, 1) := by decide +kernel
theorem zd_L_law_887 : decode code 887 = .ok (.invokestatic 130, 3) := by decide +kernel
theorem zd_L_law_890 : decode code 890 = .ok (.istore 5, 2) := by decide +kernel
theorem zd_L_law_892 : decode code 892 = .ok (.aload_n 2, 1) := by decide +kernel
theorem zd_L_law_893 : decode code 893 = .ok (.aload_n 0, 1) := by decide +kernel
theorem zd_L_law_894 : decode code 894 = .ok (.iload 4, 2) := by decide +kernel
theorem zd_L_law_896 : decode code 896 = .ok (.iconst 1, 1) := by decide +kernel
theorem zd_L_law_897 : decode code 897 = .ok (.iadd, 1) := by decide +kernel
theorem zd_L_law_898 : decode code 898 = .ok (.iaload, 1) := by decide +kernel
theorem zd_L_law_899 : decode code 899 = .ok (.invokevirtual 132, 3) := by decide +kernel
theorem zd_L_law_902 : decode code 902 = .ok (.istore 6, 2) := by decide +kernel
theorem zd_L_law_904 : decode code 904 = .ok (.aload_n 2, 1) := by decide +kernel
theorem zd_L_law_905 : decode code 905 = .ok (.invokevirtual 83, 3) := by decide +kernel
theorem zd_L_law_908 : decode code 908 = .ok (.iload 5, 2) := by decide +kernel
theorem zd_L_law_910 : decode code 910 = .ok (.if_icmp .eq 5, 3) := by decide +kernel
theorem zd_L_law_915 : decode code 915 = .ok (.iload 5, 2) := by decide +kernel
theorem zd_L_law_917 : decode code 917 = .ok (.ifCond .ne 15, 3) := by decide +kernel
theorem zd_L_law_932 : decode code 932 = .ok (.goto 644, 3) := by decide +kernel
theorem zd_L_law_920 : decode code 920 = .ok (.aload_n 3, 1) := by decide +kernel
theorem zd_L_law_921 : decode code 921 = .ok (.iconst 0, 1) := by decide +kernel
theorem zd_L_law_922 : decode code 922 = .ok (.laload, 1) := by decide +kernel
theorem zd_L_law_923 : decode code 923 = .ok (.iload 6, 2) := by decide +kernel
theorem zd_L_law_925 : decode code 925 = .ok (.i2l, 1) := by decide +kernel
theorem zd_L_law_926 : decode code 926 = .ok (.lcmp, 1) := by decide +kernel
theorem zd_L_law_927 : decode code 927 = .ok (.ifCond .eq 5, 3) := by decide +kernel
theorem zd_L_law_935 : decode code 935 = .ok (.aload_n 1, 1) := by decide +kernel
theorem zd_L_law_936 : decode code 936 = .ok (.aload_n 0, 1) := by decide +kernel
theorem zd_L_law_937 : decode code 937 = .ok (.iload 4, 2) := by decide +kernel
theorem zd_L_law_939 : decode code 939 = .ok (.iconst 1, 1) := by decide +kernel
theorem zd_L_law_940 : decode code 940 = .ok (.iadd, 1) := by decide +kernel
theorem zd_L_law_941 : decode code 941 = .ok (.iaload, 1) := by decide +kernel
theorem zd_L_law_942 : decode code 942 = .ok (.aload_n 3, 1) := by decide +kernel
theorem zd_L_law_943 : decode code 943 = .ok (.invokestatic 133, 3) := by decide +kernel
theorem zd_L_law_946 : decode code 946 = .ok (.istore 5, 2) := by decide +kernel
theorem zd_L_law_948 : decode code 948 = .ok (.aload_n 2, 1) := by decide +kernel
theorem zd_L_law_949 : decode code 949 = .ok (.aload_n 0, 1) := by decide +kernel
theorem zd_L_law_950 : decode code 950 = .ok (.iload 4, 2) := by decide +kernel
theorem zd_L_law_952 : decode code 952 = .ok (.iconst 1, 1) := by decide +kernel
theorem zd_L_law_953 : decode code 953 = .ok (.iadd, 1) := by decide +kernel
theorem zd_L_law_954 : decode code 954 = .ok (.iaload, 1) := by decide +kernel
theorem zd_L_law_955 : decode code 955 = .ok (.invokevirtual 135, 3) := by decide +kernel
theorem zd_L_law_958 : decode code 958 = .ok (.istore 6, 2) := by decide +kernel
theorem zd_L_law_960 : decode code 960 = .ok (.aload_n 2, 1) := by decide +kernel
theorem zd_L_law_961 : decode code 961 = .ok (.invokevirtual 83, 3) := by decide +kernel
theorem zd_L_law_964 : decode code 964 = .ok (.iload 5, 2) := by decide +kernel
theorem zd_L_law_966 : decode code 966 = .ok (.if_icmp .eq 5, 3) := by decide +kernel
theorem zd_L_law_971 : decode code 971 = .ok (.iload 5, 2) := by decide +kernel
theorem zd_L_law_973 : decode code 973 = .ok (.ifCond .ne 15, 3) := by decide +kernel
theorem zd_L_law_988 : decode code 988 = .ok (.goto 588, 3) := by decide +kernel
theorem zd_L_law_976 : decode code 976 = .ok (.aload_n 3, 1) := by decide +kernel
theorem zd_L_law_977 : decode code 977 = .ok (.iconst 0, 1) := by decide +kernel
theorem zd_L_law_978 : decode code 978 = .ok (.laload, 1) := by decide +kernel
theorem zd_L_law_979 : decode code 979 = .ok (.iload 6, 2) := by decide +kernel
theorem zd_L_law_981 : decode code 981 = .ok (.i2l, 1) := by decide +kernel
theorem zd_L_law_982 : decode code 982 = .ok (.lcmp, 1) := by decide +kernel
theorem zd_L_law_983 : decode code 983 = .ok (.ifCond .eq 5, 3) := by decide +kernel
theorem zd_L_law_991 : decode code 991 = .ok (.aload_n 1, 1) := by decide +kernel
theorem zd_L_law_992 : decode code 992 = .ok (.aload_n 0, 1) := by decide +kernel
theorem zd_L_law_993 : decode code 993 = .ok (.iload 4, 2) := by decide +kernel
theorem zd_L_law_995 : decode code 995 = .ok (.iconst 1, 1) := by decide +kernel
theorem zd_L_law_996 : decode code 996 = .ok (.iadd, 1) := by decide +kernel
theorem zd_L_law_997 : decode code 997 = .ok (.iaload, 1) := by decide +kernel
theorem zd_L_law_998 : decode code 998 = .ok (.aload_n 3, 1) := by decide +kernel
theorem zd_L_law_999 : decode code 999 = .ok (.invokestatic 136, 3) := by decide +kernel
theorem zd_L_law_1002 : decode code 1002 = .ok (.istore 5, 2) := by decide +kernel
theorem zd_L_law_1004 : decode code 1004 = .ok (.aload_n 2, 1) := by decide +kernel
theorem zd_L_law_1005 : decode code 1005 = .ok (.aload_n 0, 1) := by decide +kernel
theorem zd_L_law_1006 : decode code 1006 = .ok (.iload 4, 2) := by decide +kernel
theorem zd_L_law_1008 : decode code 1008 = .ok (.iconst 1, 1) := by decide +kernel
theorem zd_L_law_1009 : decode code 1009 = .ok (.iadd, 1) := by decide +kernel
theorem zd_L_law_1010 : decode code 1010 = .ok (.iaload, 1) := by decide +kernel
theorem zd_L_law_1011 : decode code 1011 = .ok (.invokevirtual 138, 3) := by decide +kernel
theorem zd_L_law_1014 : decode code 1014 = .ok (.istore 6, 2) := by decide +kernel
theorem zd_L_law_1016 : decode code 1016 = .ok (.aload_n 2, 1) := by decide +kernel
theorem zd_L_law_1017 : decode code 1017 = .ok (.invokevirtual 83, 3) := by decide +kernel
theorem zd_L_law_1020 : decode code 1020 = .ok (.iload 5, 2) := by decide +kernel
theorem zd_L_law_1022 : decode code 1022 = .ok (.if_icmp .eq 5, 3) := by decide +kernel
theorem zd_L_law_1027 : decode code 1027 = .ok (.iload 5, 2) := by decide +kernel
theorem zd_L_law_1029 : decode code 1029 = .ok (.ifCond .ne 15, 3) := by decide +kernel
theorem zd_L_law_1044 : decode code 1044 = .ok (.goto 532, 3) := by decide +kernel
theorem zd_L_law_1032 : decode code 1032 = .ok (.aload_n 3, 1) := by decide +kernel
theorem zd_L_law_1033 : decode code 1033 = .ok (.iconst 0, 1) := by decide +kernel
theorem zd_L_law_1034 : decode code 1034 = .ok (.laload, 1) := by decide +kernel
theorem zd_L_law_1035 : decode code 1035 = .ok (.iload 6, 2) := by decide +kernel
theorem zd_L_law_1037 : decode code 1037 = .ok (.i2l, 1) := by decide +kernel
theorem zd_L_law_1038 : decode code 1038 = .ok (.lcmp, 1) := by decide +kernel
theorem zd_L_law_1039 : decode code 1039 = .ok (.ifCond .eq 5, 3) := by decide +kernel
theorem zd_L_law_1047 : decode code 1047 = .ok (.aload_n 1, 1) := by decide +kernel
theorem zd_L_law_1048 : decode code 1048 = .ok (.aload_n 0, 1) := by decide +kernel
theorem zd_L_law_1049 : decode code 1049 = .ok (.iload 4, 2) := by decide +kernel
theorem zd_L_law_1051 : decode code 1051 = .ok (.iconst 1, 1) := by decide +kernel
theorem zd_L_law_1052 : decode code 1052 = .ok (.iadd, 1) := by decide +kernel
theorem zd_L_law_1053 : decode code 1053 = .ok (.iaload, 1) := by decide +kernel
theorem zd_L_law_1054 : decode code 1054 = .ok (.aload_n 0, 1) := by decide +kernel
theorem zd_L_law_1055 : decode code 1055 = .ok (.iload 4, 2) := by decide +kernel
theorem zd_L_law_1057 : decode code 1057 = .ok (.iconst 2, 1) := by decide +kernel
theorem zd_L_law_1058 : decode code 1058 = .ok (.iadd, 1) := by decide +kernel
theorem zd_L_law_1059 : decode code 1059 = .ok (.iaload, 1) := by decide +kernel
theorem zd_L_law_1060 : decode code 1060 = .ok (.aload_n 3, 1) := by decide +kernel
theorem zd_L_law_1061 : decode code 1061 = .ok (.invokestatic 139, 3) := by decide +kernel
theorem zd_L_law_1064 : decode code 1064 = .ok (.istore 5, 2) := by decide +kernel
theorem zd_L_law_1066 : decode code 1066 = .ok (.aload_n 2, 1) := by decide +kernel
theorem zd_L_law_1067 : decode code 1067 = .ok (.aload_n 0, 1) := by decide +kernel
theorem zd_L_law_1068 : decode code 1068 = .ok (.iload 4, 2) := by decide +kernel
theorem zd_L_law_1070 : decode code 1070 = .ok (.iconst 1, 1) := by decide +kernel
theorem zd_L_law_1071 : decode code 1071 = .ok (.iadd, 1) := by decide +kernel
theorem zd_L_law_1072 : decode code 1072 = .ok (.iaload, 1) := by decide +kernel
theorem zd_L_law_1073 : decode code 1073 = .ok (.aload_n 0, 1) := by decide +kernel
theorem zd_L_law_1074 : decode code 1074 = .ok (.iload 4, 2) := by decide +kernel
theorem zd_L_law_1076 : decode code 1076 = .ok (.iconst 2, 1) := by decide +kernel
theorem zd_L_law_1077 : decode code 1077 = .ok (.iadd, 1) := by decide +kernel
theorem zd_L_law_1078 : decode code 1078 = .ok (.iaload, 1) := by decide +kernel
theorem zd_L_law_1079 : decode code 1079 = .ok (.invokevirtual 141, 3) := by decide +kernel
theorem zd_L_law_1082 : decode code 1082 = .ok (.istore 6, 2) := by decide +kernel
theorem zd_L_law_1084 : decode code 1084 = .ok (.aload_n 2, 1) := by decide +kernel
theorem zd_L_law_1085 : decode code 1085 = .ok (.invokevirtual 83, 3) := by decide +kernel
theorem zd_L_law_1088 : decode code 1088 = .ok (.iload 5, 2) := by decide +kernel
theorem zd_L_law_1090 : decode code 1090 = .ok (.if_icmp .eq 5, 3) := by decide +kernel
theorem zd_L_law_1095 : decode code 1095 = .ok (.iload 5, 2) := by decide +kernel
theorem zd_L_law_1097 : decode code 1097 = .ok (.ifCond .ne 15, 3) := by decide +kernel
theorem zd_L_law_1112 : decode code 1112 = .ok (.goto 464, 3) := by decide +kernel
theorem zd_L_law_1100 : decode code 1100 = .ok (.aload_n 3, 1) := by decide +kernel
theorem zd_L_law_1101 : decode code 1101 = .ok (.iconst 0, 1) := by decide +kernel
theorem zd_L_law_1102 : decode code 1102 = .ok (.laload, 1) := by decide +kernel
theorem zd_L_law_1103 : decode code 1103 = .ok (.iload 6, 2) := by decide +kernel
theorem zd_L_law_1105 : decode code 1105 = .ok (.i2l, 1) := by decide +kernel
theorem zd_L_law_1106 : decode code 1106 = .ok (.lcmp, 1) := by decide +kernel
theorem zd_L_law_1107 : decode code 1107 = .ok (.ifCond .eq 5, 3) := by decide +kernel
theorem zd_L_law_1115 : decode code 1115 = .ok (.aload_n 1, 1) := by decide +kernel
theorem zd_L_law_1116 : decode code 1116 = .ok (.invokevirtual 142, 3) := by decide +kernel
theorem zd_L_law_1119 : decode code 1119 = .ok (.aload_n 2, 1) := by decide +kernel
theorem zd_L_law_1120 : decode code 1120 = .ok (.invokevirtual 145, 3) := by decide +kernel
theorem zd_L_law_1123 : decode code 1123 = .ok (.if_icmp .eq 453, 3) := by decide +kernel
theorem zd_L_law_1128 : decode code 1128 = .ok (.aload_n 1, 1) := by decide +kernel
theorem zd_L_law_1129 : decode code 1129 = .ok (.invokevirtual 146, 3) := by decide +kernel
theorem zd_L_law_1132 : decode code 1132 = .ok (.aload_n 2, 1) := by decide +kernel
theorem zd_L_law_1133 : decode code 1133 = .ok (.invokevirtual 149, 3) := by decide +kernel
theorem zd_L_law_1136 : decode code 1136 = .ok (.if_icmp .eq 440, 3) := by decide +kernel
theorem zd_L_law_1141 : decode code 1141 = .ok (.aload_n 1, 1) := by decide +kernel
theorem zd_L_law_1142 : decode code 1142 = .ok (.invokevirtual 150, 3) := by decide +kernel
theorem zd_L_law_1145 : decode code 1145 = .ok (.aload_n 2, 1) := by decide +kernel
theorem zd_L_law_1146 : decode code 1146 = .ok (.invokevirtual 153, 3) := by decide +kernel
theorem zd_L_law_1149 : decode code 1149 = .ok (.if_icmp .eq 427, 3) := by decide +kernel
theorem zd_L_law_1154 : decode code 1154 = .ok (.aload_n 1, 1) := by decide +kernel
theorem zd_L_law_1155 : decode code 1155 = .ok (.invokevirtual 154, 3) := by decide +kernel
theorem zd_L_law_1158 : decode code 1158 = .ok (.aload_n 2, 1) := by decide +kernel
theorem zd_L_law_1159 : decode code 1159 = .ok (.invokevirtual 157, 3) := by decide +kernel
theorem zd_L_law_1162 : decode code 1162 = .ok (.if_icmp .eq 414, 3) := by decide +kernel
theorem zd_L_law_1167 : decode code 1167 = .ok (.aload_n 1, 1) := by decide +kernel
theorem zd_L_law_1168 : decode code 1168 = .ok (.invokevirtual 158, 3) := by decide +kernel
theorem zd_L_law_1171 : decode code 1171 = .ok (.aload_n 2, 1) := by decide +kernel
theorem zd_L_law_1172 : decode code 1172 = .ok (.invokevirtual 161, 3) := by decide +kernel
theorem zd_L_law_1175 : decode code 1175 = .ok (.if_icmp .eq 401, 3) := by decide +kernel
theorem zd_L_law_1180 : decode code 1180 = .ok (.aload_n 1, 1) := by decide +kernel
theorem zd_L_law_1181 : decode code 1181 = .ok (.invokevirtual 162, 3) := by decide +kernel
theorem zd_L_law_1184 : decode code 1184 = .ok (.aload_n 2, 1) := by decide +kernel
theorem zd_L_law_1185 : decode code 1185 = .ok (.invokevirtual 165, 3) := by decide +kernel
theorem zd_L_law_1188 : decode code 1188 = .ok (.if_icmp .eq 388, 3) := by decide +kernel
theorem zd_L_law_1193 : decode code 1193 = .ok (.aload_n 1, 1) := by decide +kernel
theorem zd_L_law_1194 : decode code 1194 = .ok (.invokevirtual 166, 3) := by decide +kernel
theorem zd_L_law_1197 : decode code 1197 = .ok (.aload_n 2, 1) := by decide +kernel
theorem zd_L_law_1198 : decode code 1198 = .ok (.invokevirtual 169, 3) := by decide +kernel
theorem zd_L_law_1201 : decode code 1201 = .ok (.if_icmp .eq 375, 3) := by decide +kernel
theorem zd_L_law_1206 : decode code 1206 = .ok (.aload_n 1, 1) := by decide +kernel
theorem zd_L_law_1207 : decode code 1207 = .ok (.aload_n 0, 1) := by decide +kernel
theorem zd_L_law_1208 : decode code 1208 = .ok (.iload 4, 2) := by decide +kernel
theorem zd_L_law_1210 : decode code 1210 = .ok (.iconst 1, 1) := by decide +kernel
theorem zd_L_law_1211 : decode code 1211 = .ok (.iadd, 1) := by decide +kernel
theorem zd_L_law_1212 : decode code 1212 = .ok (.iaload, 1) := by decide +kernel
theorem zd_L_law_1213 : decode code 1213 = .ok (.aload_n 3, 1) := by decide +kernel
theorem zd_L_law_1214 : decode code 1214 = .ok (.invokestatic 170, 3) := by decide +kernel
theorem zd_L_law_1217 : decode code 1217 = .ok (.istore 5, 2) := by decide +kernel
theorem zd_L_law_1219 : decode code 1219 = .ok (.aload_n 2, 1) := by decide +kernel
theorem zd_L_law_1220 : decode code 1220 = .ok (.aload_n 0, 1) := by decide +kernel
theorem zd_L_law_1221 : decode code 1221 = .ok (.iload 4, 2) := by decide +kernel
theorem zd_L_law_1223 : decode code 1223 = .ok (.iconst 1, 1) := by decide +kernel
theorem zd_L_law_1224 : decode code 1224 = .ok (.iadd, 1) := by decide +kernel
theorem zd_L_law_1225 : decode code 1225 = .ok (.iaload, 1) := by decide +kernel
theorem zd_L_law_1226 : decode code 1226 = .ok (.invokevirtual 172, 3) := by decide +kernel
theorem zd_L_law_1229 : decode code 1229 = .ok (.istore 6, 2) := by decide +kernel
theorem zd_L_law_1231 : decode code 1231 = .ok (.aload_n 2, 1) := by decide +kernel
theorem zd_L_law_1232 : decode code 1232 = .ok (.invokevirtual 83, 3) := by decide +kernel
theorem zd_L_law_1235 : decode code 1235 = .ok (.iload 5, 2) := by decide +kernel
theorem zd_L_law_1237 : decode code 1237 = .ok (.if_icmp .eq 5, 3) := by decide +kernel
theorem zd_L_law_1242 : decode code 1242 = .ok (.iload 5, 2) := by decide +kernel
theorem zd_L_law_1244 : decode code 1244 = .ok (.ifCond .ne 22, 3) := by decide +kernel
theorem zd_L_law_1266 : decode code 1266 = .ok (.goto 310, 3) := by decide +kernel
theorem zd_L_law_1247 : decode code 1247 = .ok (.aload_n 3, 1) := by decide +kernel
theorem zd_L_law_1248 : decode code 1248 = .ok (.iconst 0, 1) := by decide +kernel
theorem zd_L_law_1249 : decode code 1249 = .ok (.laload, 1) := by decide +kernel
theorem zd_L_law_1250 : decode code 1250 = .ok (.iload 6, 2) := by decide +kernel
theorem zd_L_law_1252 : decode code 1252 = .ok (.ifCond .eq 7, 3) := by decide +kernel
theorem zd_L_law_1259 : decode code 1259 = .ok (.lconst 0, 1) := by decide +kernel
theorem zd_L_law_1260 : decode code 1260 = .ok (.lcmp, 1) := by decide +kernel
theorem zd_L_law_1261 : decode code 1261 = .ok (.ifCond .eq 5, 3) := by decide +kernel
theorem zd_L_law_1255 : decode code 1255 = .ok (.lconst 1, 1) := by decide +kernel
theorem zd_L_law_1256 : decode code 1256 = .ok (.goto 4, 3) := by decide +kernel
theorem zd_L_law_1269 : decode code 1269 = .ok (.aload_n 1, 1) := by decide +kernel
theorem zd_L_law_1270 : decode code 1270 = .ok (.invokevirtual 173, 3) := by decide +kernel
theorem zd_L_law_1273 : decode code 1273 = .ok (.aload_n 2, 1) := by decide +kernel
theorem zd_L_law_1274 : decode code 1274 = .ok (.invokevirtual 176, 3) := by decide +kernel
theorem zd_L_law_1277 : decode code 1277 = .ok (.if_icmp .eq 299, 3) := by decide +kernel
theorem zd_L_law_1282 : decode code 1282 = .ok (.aload_n 1, 1) := by decide +kernel
theorem zd_L_law_1283 : decode code 1283 = .ok (.invokevirtual 177, 3) := by decide +kernel
theorem zd_L_law_1286 : decode code 1286 = .ok (.aload_n 2, 1) := by decide +kernel
theorem zd_L_law_1287 : decode code 1287 = .ok (.invokevirtual 180, 3) := by decide +kernel
theorem zd_L_law_1290 : decode code 1290 = .ok (.if_icmp .eq 286, 3) := by decide +kernel
theorem zd_L_law_1295 : decode code 1295 = .ok (.aload_n 1, 1) := by decide +kernel
theorem zd_L_law_1296 : decode code 1296 = .ok (.invokevirtual 181, 3) := by decide +kernel
theorem zd_L_law_1299 : decode code 1299 = .ok (.aload_n 2, 1) := by decide +kernel
theorem zd_L_law_1300 : decode code 1300 = .ok (.invokevirtual 184, 3) := by decide +kernel
theorem zd_L_law_1303 : decode code 1303 = .ok (.if_icmp .eq 273, 3) := by decide +kernel
theorem zd_L_law_1308 : decode code 1308 = .ok (.aload_n 1, 1) := by decide +kernel
theorem zd_L_law_1309 : decode code 1309 = .ok (.invokevirtual 185, 3) := by decide +kernel
theorem zd_L_law_1312 : decode code 1312 = .ok (.aload_n 2, 1) := by decide +kernel
theorem zd_L_law_1313 : decode code 1313 = .ok (.invokevirtual 188, 3) := by decide +kernel
theorem zd_L_law_1316 : decode code 1316 = .ok (.if_icmp .eq 260, 3) := by decide +kernel
theorem zd_L_law_1321 : decode code 1321 = .ok (.aload_n 1, 1) := by decide +kernel
theorem zd_L_law_1322 : decode code 1322 = .ok (.invokevirtual 189, 3) := by decide +kernel
theorem zd_L_law_1325 : decode code 1325 = .ok (.aload_n 2, 1) := by decide +kernel
theorem zd_L_law_1326 : decode code 1326 = .ok (.invokevirtual 192, 3) := by decide +kernel
theorem zd_L_law_1329 : decode code 1329 = .ok (.if_icmp .eq 247, 3) := by decide +kernel
theorem zd_L_law_1334 : decode code 1334 = .ok (.aload_n 1, 1) := by decide +kernel
theorem zd_L_law_1335 : decode code 1335 = .ok (.invokevirtual 193, 3) := by decide +kernel
theorem zd_L_law_1338 : decode code 1338 = .ok (.aload_n 2, 1) := by decide +kernel
theorem zd_L_law_1339 : decode code 1339 = .ok (.invokevirtual 196, 3) := by decide +kernel
theorem zd_L_law_1342 : decode code 1342 = .ok (.if_icmp .eq 234, 3) := by decide +kernel
theorem zd_L_law_1347 : decode code 1347 = .ok (.aload_n 1, 1) := by decide +kernel
theorem zd_L_law_1348 : decode code 1348 = .ok (.invokevirtual 197, 3) := by decide +kernel
theorem zd_L_law_1351 : decode code 1351 = .ok (.aload_n 2, 1) := by decide +kernel
theorem zd_L_law_1352 : decode code 1352 = .ok (.invokevirtual 200, 3) := by decide +kernel
theorem zd_L_law_1355 : decode code 1355 = .ok (.if_icmp .eq 221, 3) := by decide +kernel
theorem zd_L_law_1360 : decode code 1360 = .ok (.aload_n 1, 1) := by decide +kernel
theorem zd_L_law_1361 : decode code 1361 = .ok (.invokevirtual 201, 3) := by decide +kernel
theorem zd_L_law_1364 : decode code 1364 = .ok (.aload_n 2, 1) := by decide +kernel
theorem zd_L_law_1365 : decode code 1365 = .ok (.invokevirtual 204, 3) := by decide +kernel
theorem zd_L_law_1368 : decode code 1368 = .ok (.if_icmp .eq 208, 3) := by decide +kernel
theorem zd_L_law_1373 : decode code 1373 = .ok (.aload_n 1, 1) := by decide +kernel
theorem zd_L_law_1374 : decode code 1374 = .ok (.invokevirtual 205, 3) := by decide +kernel
theorem zd_L_law_1377 : decode code 1377 = .ok (.aload_n 2, 1) := by decide +kernel
theorem zd_L_law_1378 : decode code 1378 = .ok (.invokevirtual 208, 3) := by decide +kernel
theorem zd_L_law_1381 : decode code 1381 = .ok (.if_icmp .eq 195, 3) := by decide +kernel
theorem zd_L_law_1386 : decode code 1386 = .ok (.aload_n 1, 1) := by decide +kernel
theorem zd_L_law_1387 : decode code 1387 = .ok (.invokevirtual 209, 3) := by decide +kernel
theorem zd_L_law_1390 : decode code 1390 = .ok (.aload_n 2, 1) := by decide +kernel
theorem zd_L_law_1391 : decode code 1391 = .ok (.invokevirtual 212, 3) := by decide +kernel
theorem zd_L_law_1394 : decode code 1394 = .ok (.if_icmp .eq 182, 3) := by decide +kernel
theorem zd_L_law_1399 : decode code 1399 = .ok (.aload_n 1, 1) := by decide +kernel
theorem zd_L_law_1400 : decode code 1400 = .ok (.invokevirtual 213, 3) := by decide +kernel
theorem zd_L_law_1403 : decode code 1403 = .ok (.aload_n 2, 1) := by decide +kernel
theorem zd_L_law_1404 : decode code 1404 = .ok (.invokevirtual 216, 3) := by decide +kernel
theorem zd_L_law_1407 : decode code 1407 = .ok (.if_icmp .eq 169, 3) := by decide +kernel
theorem zd_L_law_1412 : decode code 1412 = .ok (.aload_n 1, 1) := by decide +kernel
theorem zd_L_law_1413 : decode code 1413 = .ok (.invokevirtual 217, 3) := by decide +kernel
theorem zd_L_law_1416 : decode code 1416 = .ok (.aload_n 2, 1) := by decide +kernel
theorem zd_L_law_1417 : decode code 1417 = .ok (.invokevirtual 220, 3) := by decide +kernel
theorem zd_L_law_1420 : decode code 1420 = .ok (.if_icmp .eq 156, 3) := by decide +kernel
theorem zd_L_law_1425 : decode code 1425 = .ok (.aload_n 1, 1) := by decide +kernel
theorem zd_L_law_1426 : decode code 1426 = .ok (.invokevirtual 221, 3) := by decide +kernel
theorem zd_L_law_1429 : decode code 1429 = .ok (.aload_n 2, 1) := by decide +kernel
theorem zd_L_law_1430 : decode code 1430 = .ok (.invokevirtual 224, 3) := by decide +kernel
theorem zd_L_law_1433 : decode code 1433 = .ok (.if_icmp .eq 143, 3) := by decide +kernel
theorem zd_L_law_1438 : decode code 1438 = .ok (.aload_n 1, 1) := by decide +kernel
theorem zd_L_law_1439 : decode code 1439 = .ok (.invokevirtual 225, 3) := by decide +kernel
theorem zd_L_law_1442 : decode code 1442 = .ok (.aload_n 2, 1) := by decide +kernel
theorem zd_L_law_1443 : decode code 1443 = .ok (.invokevirtual 228, 3) := by decide +kernel
theorem zd_L_law_1446 : decode code 1446 = .ok (.if_icmp .eq 130, 3) := by decide +kernel
theorem zd_L_law_1451 : decode code 1451 = .ok (.aload_n 1, 1) := by decide +kernel
theorem zd_L_law_1452 : decode code 1452 = .ok (.invokevirtual 229, 3) := by decide +kernel
theorem zd_L_law_1455 : decode code 1455 = .ok (.aload_n 2, 1) := by decide +kernel
theorem zd_L_law_1456 : decode code 1456 = .ok (.invokevirtual 232, 3) := by decide +kernel
theorem zd_L_law_1459 : decode code 1459 = .ok (.if_icmp .eq 117, 3) := by decide +kernel
theorem zd_L_law_1464 : decode code 1464 = .ok (.aload_n 1, 1) := by decide +kernel
theorem zd_L_law_1465 : decode code 1465 = .ok (.aload_n 0, 1) := by decide +kernel
theorem zd_L_law_1466 : decode code 1466 = .ok (.iload 4, 2) := by decide +kernel
theorem zd_L_law_1468 : decode code 1468 = .ok (.iconst 1, 1) := by decide +kernel
theorem zd_L_law_1469 : decode code 1469 = .ok (.iadd, 1) := by decide +kernel
theorem zd_L_law_1470 : decode code 1470 = .ok (.iaload, 1) := by decide +kernel
theorem zd_L_law_1471 : decode code 1471 = .ok (.aload_n 3, 1) := by decide +kernel
theorem zd_L_law_1472 : decode code 1472 = .ok (.invokestatic 233, 3) := by decide +kernel
theorem zd_L_law_1475 : decode code 1475 = .ok (.istore 5, 2) := by decide +kernel
theorem zd_L_law_1477 : decode code 1477 = .ok (.aload_n 2, 1) := by decide +kernel
theorem zd_L_law_1478 : decode code 1478 = .ok (.aload_n 0, 1) := by decide +kernel
theorem zd_L_law_1479 : decode code 1479 = .ok (.iload 4, 2) := by decide +kernel
theorem zd_L_law_1481 : decode code 1481 = .ok (.iconst 1, 1) := by decide +kernel
theorem zd_L_law_1482 : decode code 1482 = .ok (.iadd, 1) := by decide +kernel
theorem zd_L_law_1483 : decode code 1483 = .ok (.iaload, 1) := by decide +kernel
theorem zd_L_law_1484 : decode code 1484 = .ok (.invokevirtual 235, 3) := by decide +kernel
theorem zd_L_law_1487 : decode code 1487 = .ok (.istore 6, 2) := by decide +kernel
theorem zd_L_law_1489 : decode code 1489 = .ok (.aload_n 2, 1) := by decide +kernel
theorem zd_L_law_1490 : decode code 1490 = .ok (.invokevirtual 83, 3) := by decide +kernel
theorem zd_L_law_1493 : decode code 1493 = .ok (.iload 5, 2) := by decide +kernel
theorem zd_L_law_1495 : decode code 1495 = .ok (.if_icmp .eq 5, 3) := by decide +kernel
theorem zd_L_law_1500 : decode code 1500 = .ok (.iload 5, 2) := by decide +kernel
theorem zd_L_law_1502 : decode code 1502 = .ok (.ifCond .ne 15, 3) := by decide +kernel
theorem zd_L_law_1517 : decode code 1517 = .ok (.goto 59, 3) := by decide +kernel
theorem zd_L_law_1505 : decode code 1505 = .ok (.aload_n 3, 1) := by decide +kernel
theorem zd_L_law_1506 : decode code 1506 = .ok (.iconst 0, 1) := by decide +kernel
theorem zd_L_law_1507 : decode code 1507 = .ok (.laload, 1) := by decide +kernel
theorem zd_L_law_1508 : decode code 1508 = .ok (.iload 6, 2) := by decide +kernel
theorem zd_L_law_1510 : decode code 1510 = .ok (.i2l, 1) := by decide +kernel
theorem zd_L_law_1511 : decode code 1511 = .ok (.lcmp, 1) := by decide +kernel
theorem zd_L_law_1512 : decode code 1512 = .ok (.ifCond .eq 5, 3) := by decide +kernel
theorem zd_L_law_1520 : decode code 1520 = .ok (.aload_n 1, 1) := by decide +kernel
theorem zd_L_law_1521 : decode code 1521 = .ok (.aload_n 0, 1) := by decide +kernel
theorem zd_L_law_1522 : decode code 1522 = .ok (.iload 4, 2) := by decide +kernel
theorem zd_L_law_1524 : decode code 1524 = .ok (.iconst 1, 1) := by decide +kernel
theorem zd_L_law_1525 : decode code 1525 = .ok (.iadd, 1) := by decide +kernel
theorem zd_L_law_1526 : decode code 1526 = .ok (.iaload, 1) := by decide +kernel
theorem zd_L_law_1527 : decode code 1527 = .ok (.aload_n 3, 1) := by decide +kernel
theorem zd_L_law_1528 : decode code 1528 = .ok (.invokestatic 236, 3) := by decide +kernel
theorem zd_L_law_1531 : decode code 1531 = .ok (.istore 5, 2) := by decide +kernel
theorem zd_L_law_1533 : decode code 1533 = .ok (.aload_n 2, 1) := by decide +kernel
theorem zd_L_law_1534 : decode code 1534 = .ok (.aload_n 0, 1) := by decide +kernel
theorem zd_L_law_1535 : decode code 1535 = .ok (.iload 4, 2) := by decide +kernel
theorem zd_L_law_1537 : decode code 1537 = .ok (.iconst 1, 1) := by decide +kernel
theorem zd_L_law_1538 : decode code 1538 = .ok (.iadd, 1) := by decide +kernel
theorem zd_L_law_1539 : decode code 1539 = .ok (.iaload, 1) := by decide +kernel
theorem zd_L_law_1540 : decode code 1540 = .ok (.invokevirtual 238, 3) := by decide +kernel
theorem zd_L_law_1543 : decode code 1543 = .ok (.istore 6, 2) := by decide +kernel
theorem zd_L_law_1545 : decode code 1545 = .ok (.aload_n 2, 1) := by decide +kernel
theorem zd_L_law_1546 : decode code 1546 = .ok (.invokevirtual 83, 3) := by decide +kernel
theorem zd_L_law_1549 : decode code 1549 = .ok (.iload 5, 2) := by decide +kernel
theorem zd_L_law_1551 : decode code 1551 = .ok (.if_icmp .eq 5, 3) := by decide +kernel
theorem zd_L_law_1556 : decode code 1556 = .ok (.iload 5, 2) := by decide +kernel
theorem zd_L_law_1558 : decode code 1558 = .ok (.ifCond .ne 15, 3) := by decide +kernel
theorem zd_L_law_1573 : decode code 1573 = .ok (.goto 3, 3) := by decide +kernel
theorem zd_L_law_1561 : decode code 1561 = .ok (.aload_n 3, 1) := by decide +kernel
theorem zd_L_law_1562 : decode code 1562 = .ok (.iconst 0, 1) := by decide +kernel
theorem zd_L_law_1563 : decode code 1563 = .ok (.laload, 1) := by decide +kernel
theorem zd_L_law_1564 : decode code 1564 = .ok (.iload 6, 2) := by decide +kernel
theorem zd_L_law_1566 : decode code 1566 = .ok (.i2l, 1) := by decide +kernel
theorem zd_L_law_1567 : decode code 1567 = .ok (.lcmp, 1) := by decide +kernel
theorem zd_L_law_1568 : decode code 1568 = .ok (.ifCond .eq 5, 3) := by decide +kernel
theorem zd_L_law_39 : decode code 39 = .ok (.tableswitch 1537 0 42 #[185, 253, 266, 322, 366, 422, 478, 534, 590, 646, 702, 715, 771, 827, 840, 896, 952, 1008, 1076, 1089, 1102, 1115, 1128, 1141, 1154, 1167, 1230, 1243, 1256, 1269, 1282, 1295, 1308, 1321, 1334, 1347, 1360, 1373, 1386, 1399, 1412, 1425, 1481], 185) := by decide +kernel
theorem zd_L_law_23 : decode code 23 = .ok (.iload 4, 2) := by decide +kernel
theorem zd_L_law_25 : decode code 25 = .ok (.aload_n 0, 1) := by decide +kernel
theorem zd_L_law_26 : decode code 26 = .ok (.arraylength, 1) := by decide +kernel
theorem zd_L_law_27 : decode code 27 = .ok (.iconst 3, 1) := by decide +kernel
theorem zd_L_law_28 : decode code 28 = .ok (.isub, 1) := by decide +kernel
theorem zd_L_law_29 : decode code 29 = .ok (.if_icmp .gt 1553, 3) := by decide +kernel
theorem zd_L_law_32 : decode code 32 = .ok (.aload_n 0, 1) := by decide +kernel
theorem zd_L_law_33 : decode code 33 = .ok (.iload 4, 2) := by decide +kernel
theorem zd_L_law_35 : decode code 35 = .ok (.iaload, 1) := by decide +kernel
theorem zd_L_law_36 : decode code 36 = .ok (.bipush 63, 2) := by decide +kernel
theorem zd_L_law_38 : decode code 38 = .ok (.iand, 1) := by decide +kernel
theorem zd_L_law_1576 : decode code 1576 = .ok (.iinc 4 3, 3) := by decide +kernel
theorem zd_L_law_1579 : decode code 1579 = .ok (.goto (-1556), 3) := by decide +kernel
theorem zd_L_law_1582 : decode code 1582 = .ok (.iconst 1, 1) := by decide +kernel
