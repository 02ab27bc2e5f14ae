theorem qd_law_260 : decode code 260 = .ok (.goto 415, 3) := by decide +kernel
theorem qd_law_263 : decode code 263 = .ok (.aload_n 1, 1) := by decide +kernel
theorem qd_law_264 : decode code 264 = .ok (.aload_n 0, 1) := by decide +kernel
theorem qd_law_265 : decode code 265 = .ok (.iload 4, 2) := by decide +kernel
theorem qd_law_267 : decode code 267 = .ok (.iconst 1, 1) := by decide +kernel
theorem qd_law_268 : decode code 268 = .ok (.iadd, 1) := by decide +kernel
theorem qd_law_269 : decode code 269 = .ok (.iaload, 1) := by decide +kernel
theorem qd_law_270 : decode code 270 = .ok (.invokestatic 71, 3) := by decide +kernel
theorem qd_law_273 : decode code 273 = .ok (.istore 5, 2) := by decide +kernel
theorem qd_law_275 : decode code 275 = .ok (.aload_n 2, 1) := by decide +kernel
theorem qd_law_276 : decode code 276 = .ok (.aload_n 0, 1) := by decide +kernel
theorem qd_law_277 : decode code 277 = .ok (.iload 4, 2) := by decide +kernel
theorem qd_law_279 : decode code 279 = .ok (.iconst 1, 1) := by decide +kernel
theorem qd_law_280 : decode code 280 = .ok (.iadd, 1) := by decide +kernel
theorem qd_law_281 : decode code 281 = .ok (.iaload, 1) := by decide +kernel
theorem qd_law_282 : decode code 282 = .ok (.invokevirtual 74, 3) := by decide +kernel
theorem qd_law_285 : decode code 285 = .ok (.aload_n 2, 1) := by decide +kernel
theorem qd_law_286 : decode code 286 = .ok (.invokevirtual 63, 3) := by decide +kernel
theorem qd_law_289 : decode code 289 = .ok (.iload 5, 2) := by decide +kernel
theorem qd_law_291 : decode code 291 = .ok (.if_icmp .eq 5, 3) := by decide +kernel
theorem qd_law_294 : decode code 294 = .ok (.iconst 0, 1) := by decide +kernel
theorem qd_law_295 : decode code 295 = .ok (.ireturn, 1) := by decide +kernel
theorem qd_law_296 : decode code 296 = .ok (.goto 379, 3) := by decide +kernel
theorem qd_law_299 : decode code 299 = .ok (.aload_n 1, 1) := by decide +kernel
theorem qd_law_300 : decode code 300 = .ok (.aload_n 0, 1) := by decide +kernel
theorem qd_law_301 : decode code 301 = .ok (.iload 4, 2) := by decide +kernel
theorem qd_law_303 : decode code 303 = .ok (.iconst 1, 1) := by decide +kernel
theorem qd_law_304 : decode code 304 = .ok (.iadd, 1) := by decide +kernel
theorem qd_law_305 : decode code 305 = .ok (.iaload, 1) := by decide +kernel
theorem qd_law_306 : decode code 306 = .ok (.aload_n 0, 1) := by decide +kernel
theorem qd_law_307 : decode code 307 = .ok (.iload 4, 2) := by decide +kernel
theorem qd_law_309 : decode code 309 = .ok (.iconst 2, 1) := by decide +kernel
theorem qd_law_310 : decode code 310 = .ok (.iadd, 1) := by decide +kernel
theorem qd_law_311 : decode code 311 = .ok (.iaload, 1) := by decide +kernel
theorem qd_law_312 : decode code 312 = .ok (.aload_n 0, 1) := by decide +kernel
theorem qd_law_313 : decode code 313 = .ok (.iload 4, 2) := by decide +kernel
theorem qd_law_315 : decode code 315 = .ok (.iconst 3, 1) := by decide +kernel
theorem qd_law_316 : decode code 316 = .ok (.iadd, 1) := by decide +kernel
theorem qd_law_317 : decode code 317 = .ok (.iaload, 1) := by decide +kernel
theorem qd_law_318 : decode code 318 = .ok (.aload_n 3, 1) := by decide +kernel
theorem qd_law_319 : decode code 319 = .ok (.invokestatic 75, 3) := by decide +kernel
theorem qd_law_322 : decode code 322 = .ok (.istore 5, 2) := by decide +kernel
theorem qd_law_324 : decode code 324 = .ok (.aload_n 2, 1) := by decide +kernel
theorem qd_law_325 : decode code 325 = .ok (.aload_n 0, 1) := by decide +kernel
theorem qd_law_326 : decode code 326 = .ok (.iload 4, 2) := by decide +kernel
theorem qd_law_328 : decode code 328 = .ok (.iconst 1, 1) := by decide +kernel
theorem qd_law_329 : decode code 329 = .ok (.iadd, 1) := by decide +kernel
theorem qd_law_330 : decode code 330 = .ok (.iaload, 1) := by decide +kernel
theorem qd_law_331 : decode code 331 = .ok (.aload_n 0, 1) := by decide +kernel
theorem qd_law_332 : decode code 332 = .ok (.iload 4, 2) := by decide +kernel
theorem qd_law_334 : decode code 334 = .ok (.iconst 2, 1) := by decide +kernel
theorem qd_law_335 : decode code 335 = .ok (.iadd, 1) := by decide +kernel
theorem qd_law_336 : decode code 336 = .ok (.iaload, 1) := by decide +kernel
theorem qd_law_337 : decode code 337 = .ok (.aload_n 0, 1) := by decide +kernel
theorem qd_law_338 : decode code 338 = .ok (.iload 4, 2) := by decide +kernel
theorem qd_law_340 : decode code 340 = .ok (.iconst 3, 1) := by decide +kernel
theorem qd_law_341 : decode code 341 = .ok (.iadd, 1) := by decide +kernel
theorem qd_law_342 : decode code 342 = .ok (.iaload, 1) := by decide +kernel
theorem qd_law_343 : decode code 343 = .ok (.invokevirtual 78, 3) := by decide +kernel
theorem qd_law_346 : decode code 346 = .ok (.istore 6, 2) := by decide +kernel
theorem qd_law_348 : decode code 348 = .ok (.aload_n 2, 1) := by decide +kernel
theorem qd_law_349 : decode code 349 = .ok (.invokevirtual 63, 3) := by decide +kernel
theorem qd_law_352 : decode code 352 = .ok (.iload 5, 2) := by decide +kernel
theorem qd_law_354 : decode code 354 = .ok (.if_icmp .eq 5, 3) := by decide +kernel
theorem qd_law_357 : decode code 357 = .ok (.iconst 0, 1) := by decide +kernel
theorem qd_law_358 : decode code 358 = .ok (.ireturn, 1) := by decide +kernel
theorem qd_law_359 : decode code 359 = .ok (.iload 5, 2) := by decide +kernel
theorem qd_law_361 : decode code 361 = .ok (.ifCond .ne 15, 3) := by decide +kernel
theorem qd_law_364 : decode code 364 = .ok (.aload_n 3, 1) := by decide +kernel
theorem qd_law_365 : decode code 365 = .ok (.iconst 0, 1) := by decide +kernel
theorem qd_law_366 : decode code 366 = .ok (.laload, 1) := by decide +kernel
theorem qd_law_367 : decode code 367 = .ok (.iload 6, 2) := by decide +kernel
theorem qd_law_369 : decode code 369 = .ok (.i2l, 1) := by decide +kernel
theorem qd_law_370 : decode code 370 = .ok (.lcmp, 1) := by decide +kernel
theorem qd_law_371 : decode code 371 = .ok (.ifCond .eq 5, 3) := by decide +kernel
theorem qd_law_374 : decode code 374 = .ok (.iconst 0, 1) := by decide +kernel
theorem qd_law_375 : decode code 375 = .ok (.ireturn, 1) := by decide +kernel
theorem qd_law_376 : decode code 376 = .ok (.goto 299, 3) := by decide +kernel
theorem qd_law_379 : decode code 379 = .ok (.aload_n 1, 1) := by decide +kernel
theorem qd_law_380 : decode code 380 = .ok (.aload_n 0, 1) := by decide +kernel
theorem qd_law_381 : decode code 381 = .ok (.iload 4, 2) := by decide +kernel
theorem qd_law_383 : decode code 383 = .ok (.iconst 1, 1) := by decide +kernel
theorem qd_law_384 : decode code 384 = .ok (.iadd, 1) := by decide +kernel
theorem qd_law_385 : decode code 385 = .ok (.iaload, 1) := by decide +kernel
theorem qd_law_386 : decode code 386 = .ok (.aload_n 0, 1) := by decide +kernel
theorem qd_law_387 : decode code 387 = .ok (.iload 4, 2) := by decide +kernel
theorem qd_law_389 : decode code 389 = .ok (.iconst 2, 1) := by decide +kernel
theorem qd_law_390 : decode code 390 = .ok (.iadd, 1) := by decide +kernel
theorem qd_law_391 : decode code 391 = .ok (.iaload, 1) := by decide +kernel
theorem qd_law_392 : decode code 392 = .ok (.aload_n 0, 1) := by decide +kernel
theorem qd_law_393 : decode code 393 = .ok (.iload 4, 2) := by decide +kernel
theorem qd_law_395 : decode code 395 = .ok (.iconst 3, 1) := by decide +kernel
theorem qd_law_396 : decode code 396 = .ok (.iadd, 1) := by decide +kernel
theorem qd_law_397 : decode code 397 = .ok (.iaload, 1) := by decide +kernel
theorem qd_law_398 : decode code 398 = .ok (.aload_n 3, 1) := by decide +kernel
theorem qd_law_399 : decode code 399 = .ok (.invokestatic 79, 3) := by decide +kernel
theorem qd_law_402 : decode code 402 = .ok (.istore 5, 2) := by decide +kernel
theorem qd_law_404 : decode code 404 = .ok (.aload_n 2, 1) := by decide +kernel
theorem qd_law_405 : decode code 405 = .ok (.aload_n 0, 1) := by decide +kernel
theorem qd_law_406 : decode code 406 = .ok (.iload 4, 2) := by decide +kernel
theorem qd_law_408 : decode code 408 = .ok (.iconst 1, 1) := by decide +kernel
theorem qd_law_409 : decode code 409 = .ok (.iadd, 1) := by decide +kernel
theorem qd_law_410 : decode code 410 = .ok (.iaload, 1) := by decide +kernel
theorem qd_law_411 : decode code 411 = .ok (.aload_n 0, 1) := by decide +kernel
theorem qd_law_412 : decode code 412 = .ok (.iload 4, 2) := by decide +kernel
theorem qd_law_414 : decode code 414 = .ok (.iconst 2, 1) := by decide +kernel
theorem qd_law_415 : decode code 415 = .ok (.iadd, 1) := by decide +kernel
theorem qd_law_416 : decode code 416 = .ok (.iaload, 1) := by decide +kernel
theorem qd_law_417 : decode code 417 = .ok (.aload_n 0, 1) := by decide +kernel
theorem qd_law_418 : decode code 418 = .ok (.iload 4, 2) := by decide +kernel
theorem qd_law_420 : decode code 420 = .ok (.iconst 3, 1) := by decide +kernel
theorem qd_law_421 : decode code 421 = .ok (.iadd, 1) := by decide +kernel
theorem qd_law_422 : decode code 422 = .ok (.iaload, 1) := by decide +kernel
theorem qd_law_423 : decode code 423 = .ok (.invokevirtual 81, 3) := by decide +kernel
theorem qd_law_426 : decode code 426 = .ok (.istore 6, 2) := by decide +kernel
theorem qd_law_428 : decode code 428 = .ok (.aload_n 2, 1) := by decide +kernel
theorem qd_law_429 : decode code 429 = .ok (.invokevirtual 63, 3) := by decide +kernel
theorem qd_law_432 : decode code 432 = .ok (.iload 5, 2) := by decide +kernel
theorem qd_law_434 : decode code 434 = .ok (.if_icmp .eq 5, 3) := by decide +kernel
theorem qd_law_437 : decode code 437 = .ok (.iconst 0, 1) := by decide +kernel
theorem qd_law_438 : decode code 438 = .ok (.ireturn, 1) := by decide +kernel
theorem qd_law_439 : decode code 439 = .ok (.iload 5, 2) := by decide +kernel
theorem qd_law_441 : decode code 441 = .ok (.ifCond .ne 15, 3) := by decide +kernel
theorem qd_law_444 : decode code 444 = .ok (.aload_n 3, 1) := by decide +kernel
theorem qd_law_445 : decode code 445 = .ok (.iconst 0, 1) := by decide +kernel
theorem qd_law_446 : decode code 446 = .ok (.laload, 1) := by decide +kernel
theorem qd_law_447 : decode code 447 = .ok (.iload 6, 2) := by decide +kernel
theorem qd_law_449 : decode code 449 = .ok (.i2l, 1) := by decide +kernel
theorem qd_law_450 : decode code 450 = .ok (.lcmp, 1) := by decide +kernel
theorem qd_law_451 : decode code 451 = .ok (.ifCond .eq 5, 3) := by decide +kernel
theorem qd_law_454 : decode code 454 = .ok (.iconst 0, 1) := by decide +kernel
theorem qd_law_455 : decode code 455 = .ok (.ireturn, 1) := by decide +kernel
theorem qd_law_456 : decode code 456 = .ok (.goto 219, 3) := by decide +kernel
theorem qd_law_459 : decode code 459 = .ok (.aload_n 1, 1) := by decide +kernel
theorem qd_law_460 : decode code 460 = .ok (.aload_n 0, 1) := by decide +kernel
theorem qd_law_461 : decode code 461 = .ok (.iload 4, 2) := by decide +kernel
theorem qd_law_463 : decode code 463 = .ok (.iconst 1, 1) := by decide +kernel
theorem qd_law_464 : decode code 464 = .ok (.iadd, 1) := by decide +kernel
theorem qd_law_465 : decode code 465 = .ok (.iaload, 1) := by decide +kernel
theorem qd_law_466 : decode code 466 = .ok (.aload_n 0, 1) := by decide +kernel
theorem qd_law_467 : decode code 467 = .ok (.iload 4, 2) := by decide +kernel
theorem qd_law_469 : decode code 469 = .ok (.iconst 2, 1) := by decide +kernel
theorem qd_law_470 : decode code 470 = .ok (.iadd, 1) := by decide +kernel
theorem qd_law_471 : decode code 471 = .ok (.iaload, 1) := by decide +kernel
theorem qd_law_472 : decode code 472 = .ok (.aload_n 0, 1) := by decide +kernel
theorem qd_law_473 : decode code 473 = .ok (.iload 4, 2) := by decide +kernel
theorem qd_law_475 : decode code 475 = .ok (.iconst 3, 1) := by decide +kernel
theorem qd_law_476 : decode code 476 = .ok (.iadd, 1) := by decide +kernel
theorem qd_law_477 : decode code 477 = .ok (.iaload, 1) := by decide +kernel
theorem qd_law_478 : decode code 478 = .ok (.aload_n 0, 1) := by decide +kernel
theorem qd_law_479 : decode code 479 = .ok (.iload 4, 2) := by decide +kernel
theorem qd_law_481 : decode code 481 = .ok (.iconst 4, 1) := by decide +kernel
theorem qd_law_482 : decode code 482 = .ok (.iadd, 1) := by decide +kernel
theorem qd_law_483 : decode code 483 = .ok (.iaload, 1) := by decide +kernel
theorem qd_law_484 : decode code 484 = .ok (.aload_n 3, 1) := by decide +kernel
theorem qd_law_485 : decode code 485 = .ok (.invokestatic 82, 3) := by decide +kernel
theorem qd_law_488 : decode code 488 = .ok (.istore 5, 2) := by decide +kernel
theorem qd_law_490 : decode code 490 = .ok (.aload_n 2, 1) := by decide +kernel
theorem qd_law_491 : decode code 491 = .ok (.aload_n 0, 1) := by decide +kernel
theorem qd_law_492 : decode code 492 = .ok (.iload 4, 2) := by decide +kernel
theorem qd_law_494 : decode code 494 = .ok (.iconst 1, 1) := by decide +kernel
theorem qd_law_495 : decode code 495 = .ok (.iadd, 1) := by decide +kernel
theorem qd_law_496 : decode code 496 = .ok (.iaload, 1) := by decide +kernel
theorem qd_law_497 : decode code 497 = .ok (.aload_n 0, 1) := by decide +kernel
theorem qd_law_498 : decode code 498 = .ok (.iload 4, 2) := by decide +kernel
theorem qd_law_500 : decode code 500 = .ok (.iconst 2, 1) := by decide +kernel
theorem qd_law_501 : decode code 501 = .ok (.iadd, 1) := by decide +kernel
theorem qd_law_502 : decode code 502 = .ok (.iaload, 1) := by decide +kernel
theorem qd_law_503 : decode code 503 = .ok (.aload_n 0, 1) := by decide +kernel
theorem qd_law_504 : decode code 504 = .ok (.iload 4, 2) := by decide +kernel
theorem qd_law_506 : decode code 506 = .ok (.iconst 3, 1) := by decide +kernel
theorem qd_law_507 : decode code 507 = .ok (.iadd, 1) := by decide +kernel
theorem qd_law_508 : decode code 508 = .ok (.iaload, 1) := by decide +kernel
theorem qd_law_509 : decode code 509 = .ok (.aload_n 0, 1) := by decide +kernel
theorem qd_law_510 : decode code 510 = .ok (.iload 4, 2) := by decide +kernel
theorem qd_law_512 : decode code 512 = .ok (.iconst 4, 1) := by decide +kernel
theorem qd_law_513 : decode code 513 = .ok (.iadd, 1) := by decide +kernel
theorem qd_law_514 : decode code 514 = .ok (.iaload, 1) := by decide +kernel
theorem qd_law_515 : decode code 515 = .ok (.invokevirtual 85, 3) := by decide +kernel
theorem qd_law_518 : decode code 518 = .ok (.istore 6, 2) := by decide +kernel
theorem qd_law_520 : decode code 520 = .ok (.aload_n 2, 1) := by decide +kernel
theorem qd_law_521 : decode code 521 = .ok (.invokevirtual 63, 3) := by decide +kernel
theorem qd_law_524 : decode code 524 = .ok (.iload 5, 2) := by decide +kernel
theorem qd_law_526 : decode code 526 = .ok (.if_icmp .eq 5, 3) := by decide +kernel
theorem qd_law_529 : decode code 529 = .ok (.iconst 0, 1) := by decide +kernel
theorem qd_law_530 : decode code 530 = .ok (.ireturn, 1) := by decide +kernel
theorem qd_law_531 : decode code 531 = .ok (.iload 5, 2) := by decide +kernel
theorem qd_law_533 : decode code 533 = .ok (.ifCond .ne 15, 3) := by decide +kernel
theorem qd_law_536 : decode code 536 = .ok (.aload_n 3, 1) := by decide +kernel
theorem qd_law_537 : decode code 537 = .ok (.iconst 0, 1) := by decide +kernel
theorem qd_law_538 : decode code 538 = .ok (.laload, 1) := by decide +kernel
theorem qd_law_539 : decode code 539 = .ok (.iload 6, 2) := by decide +kernel
theorem qd_law_541 : decode code 541 = .ok (.i2l, 1) := by decide +kernel
theorem qd_law_542 : decode code 542 = .ok (.lcmp, 1) := by decide +kernel
theorem qd_law_543 : decode code 543 = .ok (.ifCond .eq 5, 3) := by decide +kernel
theorem qd_law_546 : decode code 546 = .ok (.iconst 0, 1) := by decide +kernel
theorem qd_law_547 : decode code 547 = .ok (.ireturn, 1) := by decide +kernel
theorem qd_law_548 : decode code 548 = .ok (.goto 127, 3) := by decide +kernel
theorem qd_law_551 : decode code 551 = .ok (.aload_n 1, 1) := by decide +kernel
theorem qd_law_552 : decode code 552 = .ok (.aload_n 0, 1) := by decide +kernel
theorem qd_law_553 : decode code 553 = .ok (.iload 4, 2) := by decide +kernel
theorem qd_law_555 : decode code 555 = .ok (.iconst 1, 1) := by decide +kernel
theorem qd_law_556 : decode code 556 = .ok (.iadd, 1) := by decide +kernel
theorem qd_law_557 : decode code 557 = .ok (.iaload, 1) := by decide +kernel
theorem qd_law_558 : decode code 558 = .ok (.aload_n 0, 1) := by decide +kernel
theorem qd_law_559 : decode code 559 = .ok (.iload 4, 2) := by decide +kernel
theorem qd_law_561 : decode code 561 = .ok (.iconst 2, 1) := by decide +kernel
theorem qd_law_562 : decode code 562 = .ok (.iadd, 1) := by decide +kernel
theorem qd_law_563 : decode code 563 = .ok (.iaload, 1) := by decide +kernel
theorem qd_law_564 : decode code 564 = .ok (.aload_n 3, 1) := by decide +kernel
theorem qd_law_565 : decode code 565 = .ok (.invokestatic 86, 3) := by decide +kernel
theorem qd_law_568 : decode code 568 = .ok (.istore 5, 2) := by decide +kernel
theorem qd_law_570 : decode code 570 = .ok (.aload_n 2, 1) := by decide +kernel
theorem qd_law_571 : decode code 571 = .ok (.aload_n 0, 1) := by decide +kernel
theorem qd_law_572 : decode code 572 = .ok (.iload 4, 2) := by decide +kernel
theorem qd_law_574 : decode code 574 = .ok (.iconst 1, 1) := by decide +kernel
theorem qd_law_575 : decode code 575 = .ok (.iadd, 1) := by decide +kernel
theorem qd_law_576 : decode code 576 = .ok (.iaload, 1) := by decide +kernel
theorem qd_law_577 : decode code 577 = .ok (.aload_n 0, 1) := by decide +kernel
theorem qd_law_578 : decode code 578 = .ok (.iload 4, 2) := by decide +kernel
theorem qd_law_580 : decode code 580 = .ok (.iconst 2, 1) := by decide +kernel
theorem qd_law_581 : decode code 581 = .ok (.iadd, 1) := by decide +kernel
theorem qd_law_582 : decode code 582 = .ok (.iaload, 1) := by decide +kernel
theorem qd_law_583 : decode code 583 = .ok (.invokevirtual 89, 3) := by decide +kernel
theorem qd_law_586 : decode code 586 = .ok (.istore 6, 2) := by decide +kernel
theorem qd_law_588 : decode code 588 = .ok (.aload_n 2, 1) := by decide +kernel
theorem qd_law_589 : decode code 589 = .ok (.invokevirtual 63, 3) := by decide +kernel
theorem qd_law_592 : decode code 592 = .ok (.iload 5, 2) := by decide +kernel
theorem qd_law_594 : decode code 594 = .ok (.if_icmp .eq 5, 3) := by decide +kernel
theorem qd_law_597 : decode code 597 = .ok (.iconst 0, 1) := by decide +kernel
theorem qd_law_598 : decode code 598 = .ok (.ireturn, 1) := by decide +kernel
theorem qd_law_599 : decode code 599 = .ok (.iload 5, 2) := by decide +kernel
theorem qd_law_601 : decode code 601 = .ok (.ifCond .ne 15, 3) := by decide +kernel
theorem qd_law_604 : decode code 604 = .ok (.aload_n 3, 1) := by decide +kernel
theorem qd_law_605 : decode code 605 = .ok (.iconst 0, 1) := by decide +kernel
theorem qd_law_606 : decode code 606 = .ok (.laload, 1) := by decide +kernel
theorem qd_law_607 : decode code 607 = .ok (.iload 6, 2) := by decide +kernel
theorem qd_law_609 : decode code 609 = .ok (.i2l, 1) := by decide +kernel
theorem qd_law_610 : decode code 610 = .ok (.lcmp, 1) := by decide +kernel
theorem qd_law_611 : decode code 611 = .ok (.ifCond .eq 5, 3) := by decide +kernel
theorem qd_law_614 : decode code 614 = .ok (.iconst 0, 1) := by decide +kernel
theorem qd_law_615 : decode code 615 = .ok (.ireturn, 1) := by decide +kernel
theorem qd_law_616 : decode code 616 = .ok (.goto 59, 3) := by decide +kernel
theorem qd_law_619 : decode code 619 = .ok (.aload_n 1, 1) := by decide +kernel
theorem qd_law_620 : decode code 620 = .ok (.aload_n 0, 1) := by decide +kernel
theorem qd_law_621 : decode code 621 = .ok (.iload 4, 2) := by decide +kernel
theorem qd_law_623 : decode code 623 = .ok (.iconst 1, 1) := by decide +kernel
theorem qd_law_624 : decode code 624 = .ok (.iadd, 1) := by decide +kernel
theorem qd_law_625 : decode code 625 = .ok (.iaload, 1) := by decide +kernel
theorem qd_law_626 : decode code 626 = .ok (.aload_n 3, 1) := by decide +kernel
theorem qd_law_627 : decode code 627 = .ok (.invokestatic 90, 3) := by decide +kernel
theorem qd_law_630 : decode code 630 = .ok (.istore 5, 2) := by decide +kernel
theorem qd_law_632 : decode code 632 = .ok (.aload_n 2, 1) := by decide +kernel
theorem qd_law_633 : decode code 633 = .ok (.aload_n 0, 1) := by decide +kernel
theorem qd_law_634 : decode code 634 = .ok (.iload 4, 2) := by decide +kernel
theorem qd_law_636 : decode code 636 = .ok (.iconst 1, 1) := by decide +kernel
theorem qd_law_637 : decode code 637 = .ok (.iadd, 1) := by decide +kernel
theorem qd_law_638 : decode code 638 = .ok (.iaload, 1) := by decide +kernel
theorem qd_law_639 : decode code 639 = .ok (.invokevirtual 92, 3) := by decide +kernel
theorem qd_law_642 : decode code 642 = .ok (.istore 6, 2) := by decide +kernel
theorem qd_law_644 : decode code 644 = .ok (.aload_n 2, 1) := by decide +kernel
theorem qd_law_645 : decode code 645 = .ok (.invokevirtual 63, 3) := by decide +kernel
theorem qd_law_648 : decode code 648 = .ok (.iload 5, 2) := by decide +kernel
theorem qd_law_650 : decode code 650 = .ok (.if_icmp .eq 5, 3) := by decide +kernel
theorem qd_law_653 : decode code 653 = .ok (.iconst 0, 1) := by decide +kernel
theorem qd_law_654 : decode code 654 = .ok (.ireturn, 1) := by decide +kernel
theorem qd_law_655 : decode code 655 = .ok (.iload 5, 2) := by decide +kernel
theorem qd_law_657 : decode code 657 = .ok (.ifCond .ne 15, 3) := by decide +kernel
theorem qd_law_660 : decode code 660 = .ok (.aload_n 3, 1) := by decide +kernel
theorem qd_law_661 : decode code 661 = .ok (.iconst 0, 1) := by decide +kernel
theorem qd_law_662 : decode code 662 = .ok (.laload, 1) := by decide +kernel
theorem qd_law_663 : decode code 663 = .ok (.iload 6, 2) := by decide +kernel
theorem qd_law_665 : decode code 665 = .ok (.i2l, 1) := by decide +kernel
theorem qd_law_666 : decode code 666 = .ok (.lcmp, 1) := by decide +kernel
theorem qd_law_667 : decode code 667 = .ok (.ifCond .eq 5, 3) := by decide +kernel
theorem qd_law_670 : decode code 670 = .ok (.iconst 0, 1) := by decide +kernel
theorem qd_law_671 : decode code 671 = .ok (.ireturn, 1) := by decide +kernel
theorem qd_law_672 : decode code 672 = .ok (.goto 3, 3) := by decide +kernel
theorem qd_law_675 : decode code 675 = .ok (.iinc 4 6, 3) := by decide +kernel
theorem qd_law_678 : decode code 678 = .ok (.goto (-655), 3) := by decide +kernel
theorem qd_law_681 : decode code 681 = .ok (.iconst 1, 1) := by decide +kernel
theorem qd_law_682 : decode code 682 = .ok (.ireturn, 1) := by decide +kernel
